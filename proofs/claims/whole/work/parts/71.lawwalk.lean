section WK99
variable {D : va_G} {cA : Nat → ClassId} {bs : Nat} {Z : Nat → Nat} {p : Program} {l : Launch} {e : Env} {s : State} {m : MethodId} {args : Array Value} {below : List Frame} {meth : Method} {c : Code}
set_option maxHeartbeats 4000000 in
theorem w_L_law_18 {b L : Nat} {xs : Nat → Int32} (C : Cx D cA s.heap.size Z p s m #[Value.ref b] meth c code RL 4 ret) (hX : va_X b L xs s s.heap) (hbl : b < s.heap.size)  (res : Int32 × Sh × Nat × Im × Jm × Rf) (hres : res.1 = 1)  : ∀ (k : Nat), k ≤ 514 → ∀ (x1 : Option Nat) (x2 : Option Nat) (x3 : Int32) (K : Sh) (n : Nat) (I : Im) (J : Jm) (R : Rf), f_L_law_18 Z L xs k x1 x2 x3 K n I J R = some res → VW D cA s.heap.size Z p l e room_1 s m #[Value.ref b] below meth c 4 [(0, va_rf (some b)), (1, va_rf x1), (2, va_rf x2), (3, .int x3)] K n I J R (112 + (514 - k) * 5) (3245 + (514 - k) * 1807) (lw_Z below #[Value.ref b] s) 18 [] := by
  intro k
  induction k with
  | zero =>
    intro hkF x1 x2 x3 K n I J R E
    have E : (none : Option (Int32 × Sh × Nat × Im × Jm × Rf)) = some res := E
    cases E
  | succ k ih =>
    intro hkF x1 x2 x3 K n I J R E
    have ih := ih (by omega)
    unfold f_L_law_18 at E
    refine v_iload_n C 3 dL_law_18 rfl ?_
    refine v_aload_n (r := (some b)) C 0 dL_law_19 rfl ?_
    refine v_slenA C hX hbl dL_law_20 ?_
    refine v_bipush C dL_law_21 k_bipush_6 ?_
    refine v_isub C dL_law_23 ?_
    refine v_icmp_gt C 1176 E dL_law_24 rfl (fun c420 E => ?_) (fun c420 E => ?_)
    · refine v_iconst C dL_law_1176 k_iconst_1 ?_
      refine v_widen (k1 := 600000) (k2 := 7302250) (by omega) (by omega) ?_
      exact v_lawret C dL_law_1177
    · refine v_aload_n (r := (some b)) C 0 dL_law_27 rfl ?_
      refine v_iload_n C 3 dL_law_28 rfl ?_
      refine v_sld C hX hbl E dL_law_29 (fun v1 _ E => ?_)
      refine v_bipush C dL_law_30 k_bipush_31 ?_
      refine v_iand C dL_law_32 ?_
      by_cases c15 : (v1 &&& 31) = 0
      · have E := ite_t E c15
        refine v_tableIn (off := 135) C 168 dL_law_33 (by rw [c15]; decide) (by rw [c15]; decide) (by rw [c15]; rfl) rfl ?_
        refine v_aload_n (r := x1) C 1 dL_law_168 rfl ?_
        refine v_aload_n (r := (some b)) C 0 dL_law_169 rfl ?_
        refine v_iload_n C 3 dL_law_170 rfl ?_
        refine v_iconst C dL_law_171 k_iconst_1 ?_
        refine v_iadd C dL_law_172 ?_
        refine v_sld C hX hbl E dL_law_173 (fun v2 _ E => ?_)
        refine v_aload_n (r := (some b)) C 0 dL_law_174 rfl ?_
        refine v_iload_n C 3 dL_law_175 rfl ?_
        refine v_iconst C dL_law_176 k_iconst_2 ?_
        refine v_iadd C dL_law_177 ?_
        refine v_sld C hX hbl E dL_law_178 (fun v3 _ E => ?_)
        obtain ⟨a4, h5, E⟩ := bnd E
        obtain ⟨hra4, hoa4⟩ := ob_is h5
        obtain ⟨q6, h7, E⟩ := bnd E
        refine v_callV (r := x1) (As := [.int v2, .int v3]) (rv := (some (.int q6.1))) (st := []) (st1 := [.int q6.1]) (ce1 := (112 + (514 - (k + 1)) * 5)) (sl1 := (3245 + (514 - (k + 1)) * 1807)) C cv_L_13 (c_X11_feed (x1 := v2) (x2 := v3) hoa4 h7) hra4 hoa4 rfl rfl ⟨rfl, rfl, Nat.le_of_ble_eq_true rfl, Nat.le_of_ble_eq_true rfl⟩ ⟨by show _ ≤ 600000; omega, by show _ ≤ 7302250; omega⟩ (Nat.le_of_ble_eq_true rfl) rfl rfl rfl dL_law_179 ?_
        refine v_aload_n (r := x2) C 2 dL_law_182 rfl ?_
        refine v_aload_n (r := (some b)) C 0 dL_law_183 rfl ?_
        refine v_iload_n C 3 dL_law_184 rfl ?_
        refine v_iconst C dL_law_185 k_iconst_1 ?_
        refine v_iadd C dL_law_186 ?_
        refine v_sld C hX hbl E dL_law_187 (fun v8 _ E => ?_)
        refine v_aload_n (r := (some b)) C 0 dL_law_188 rfl ?_
        refine v_iload_n C 3 dL_law_189 rfl ?_
        refine v_iconst C dL_law_190 k_iconst_2 ?_
        refine v_iadd C dL_law_191 ?_
        refine v_sld C hX hbl E dL_law_192 (fun v9 _ E => ?_)
        obtain ⟨a10, h11, E⟩ := bnd E
        obtain ⟨hra10, hoa10⟩ := ob_is h11
        obtain ⟨q12, h13, E⟩ := bnd E
        refine v_callV (r := x2) (As := [.int v8, .int v9]) (rv := (some (.int q12.1))) (st := [.int q6.1]) (st1 := [.int q12.1, .int q6.1]) (ce1 := (112 + (514 - (k + 1)) * 5)) (sl1 := (3245 + (514 - (k + 1)) * 1807)) C cv_L_17 (c_X12_feed (x1 := v8) (x2 := v9) hoa10 h13) hra10 hoa10 rfl rfl ⟨rfl, rfl, Nat.le_of_ble_eq_true rfl, Nat.le_of_ble_eq_true rfl⟩ ⟨by show _ ≤ 600000; omega, by show _ ≤ 7302250; omega⟩ (Nat.le_of_ble_eq_true rfl) rfl rfl rfl dL_law_193 ?_
        refine v_icmp_eq C 1170 E dL_law_196 rfl (fun c14 E => ?_) (fun c14 E => ?_)
        · refine v_iinc (v := x3 + 6) C 3 [(3, .int (x3 + 6)), (0, va_rf (some b)), (1, va_rf x1), (2, va_rf x2)] dL_law_1170 rfl (k_inc_6 _) (Nat.le_of_ble_eq_true rfl) (by generalize x2 = rr; cases rr <;> rfl) ?_
          refine v_goto C 18 dL_law_1173 rfl ?_
          refine v_widen (k1 := (112 + (514 - k) * 5)) (k2 := (3245 + (514 - k) * 1807)) (by omega) (by omega) ?_
          exact v_sub [1, 2, 3, 0] [(0, va_rf (some b)), (1, va_rf x1), (2, va_rf x2), (3, .int (x3 + 6))] rfl (ih _ _ _ _ _ _ _ _ E)
        · refine v_iconst C dL_law_199 k_iconst_0 ?_
          obtain rfl := Option.some.inj E
          exact absurd hres (by show ¬ (0 : Int32) = 1; decide)
      have E := ite_f E c15
      by_cases c25 : (v1 &&& 31) = 1
      · have E := ite_t E c25
        refine v_tableIn (off := 168) C 201 dL_law_33 (by rw [c25]; decide) (by rw [c25]; decide) (by rw [c25]; rfl) rfl ?_
        refine v_aload_n (r := x1) C 1 dL_law_201 rfl ?_
        obtain ⟨a16, h17, E⟩ := bnd E
        obtain ⟨hra16, hoa16⟩ := ob_is h17
        obtain ⟨q18, h19, E⟩ := bnd E
        refine v_callV (r := x1) (As := []) (rv := (some (.int q18.1))) (st := []) (st1 := [.int q18.1]) (ce1 := ((112 + (514 - (k + 1)) * 5) + 5)) (sl1 := ((3245 + (514 - (k + 1)) * 1807) + 1807)) C cv_L_18 (c_X11_waste  h19) hra16 hoa16 rfl rfl ⟨rfl, rfl, Nat.le_of_ble_eq_true rfl, Nat.le_of_ble_eq_true rfl⟩ ⟨by show _ ≤ 600000; omega, by show _ ≤ 7302250; omega⟩ (Nat.le_of_ble_eq_true rfl) rfl rfl rfl dL_law_202 ?_
        refine v_aload_n (r := x2) C 2 dL_law_205 rfl ?_
        obtain ⟨a20, h21, E⟩ := bnd E
        obtain ⟨hra20, hoa20⟩ := ob_is h21
        obtain ⟨q22, h23, E⟩ := bnd E
        refine v_callV (r := x2) (As := []) (rv := (some (.int q22.1))) (st := [.int q18.1]) (st1 := [.int q22.1, .int q18.1]) (ce1 := ((112 + (514 - (k + 1)) * 5) + 5)) (sl1 := ((3245 + (514 - (k + 1)) * 1807) + 1807)) C cv_L_22 (c_X12_waste  hoa20 h23) hra20 hoa20 rfl rfl ⟨rfl, rfl, Nat.le_of_ble_eq_true rfl, Nat.le_of_ble_eq_true rfl⟩ ⟨by show _ ≤ 600000; omega, by show _ ≤ 7302250; omega⟩ (Nat.le_of_ble_eq_true rfl) rfl rfl rfl dL_law_206 ?_
        refine v_icmp_eq C 1170 E dL_law_209 rfl (fun c24 E => ?_) (fun c24 E => ?_)
        · refine v_iinc (v := x3 + 6) C 3 [(3, .int (x3 + 6)), (0, va_rf (some b)), (1, va_rf x1), (2, va_rf x2)] dL_law_1170 rfl (k_inc_6 _) (Nat.le_of_ble_eq_true rfl) (by generalize x2 = rr; cases rr <;> rfl) ?_
          refine v_goto C 18 dL_law_1173 rfl ?_
          refine v_widen (k1 := (112 + (514 - k) * 5)) (k2 := (3245 + (514 - k) * 1807)) (by omega) (by omega) ?_
          exact v_sub [1, 2, 3, 0] [(0, va_rf (some b)), (1, va_rf x1), (2, va_rf x2), (3, .int (x3 + 6))] rfl (ih _ _ _ _ _ _ _ _ E)
        · refine v_iconst C dL_law_212 k_iconst_0 ?_
          obtain rfl := Option.some.inj E
          exact absurd hres (by show ¬ (0 : Int32) = 1; decide)
      have E := ite_f E c25
      by_cases c37 : (v1 &&& 31) = 2
      · have E := ite_t E c37
        refine v_tableIn (off := 181) C 214 dL_law_33 (by rw [c37]; decide) (by rw [c37]; decide) (by rw [c37]; rfl) rfl ?_
        refine v_aload_n (r := x1) C 1 dL_law_214 rfl ?_
        refine v_aload_n (r := (some b)) C 0 dL_law_215 rfl ?_
        refine v_iload_n C 3 dL_law_216 rfl ?_
        refine v_iconst C dL_law_217 k_iconst_1 ?_
        refine v_iadd C dL_law_218 ?_
        refine v_sld C hX hbl E dL_law_219 (fun v26 _ E => ?_)
        obtain ⟨a27, h28, E⟩ := bnd E
        obtain ⟨hra27, hoa27⟩ := ob_is h28
        obtain ⟨q29, h30, E⟩ := bnd E
        refine v_callV (r := x1) (As := [.int v26]) (rv := (some (.int q29))) (st := []) (st1 := [.int q29]) (ce1 := (112 + (514 - (k + 1)) * 5)) (sl1 := (3245 + (514 - (k + 1)) * 1807)) C cv_L_23 (c_X11_of (x1 := v26) hoa27 h30) hra27 hoa27 rfl rfl ⟨rfl, rfl, Nat.le_of_ble_eq_true rfl, Nat.le_of_ble_eq_true rfl⟩ ⟨by show _ ≤ 600000; omega, by show _ ≤ 7302250; omega⟩ (Nat.le_of_ble_eq_true rfl) rfl rfl rfl dL_law_220 ?_
        refine v_aload_n (r := x2) C 2 dL_law_223 rfl ?_
        refine v_aload_n (r := (some b)) C 0 dL_law_224 rfl ?_
        refine v_iload_n C 3 dL_law_225 rfl ?_
        refine v_iconst C dL_law_226 k_iconst_1 ?_
        refine v_iadd C dL_law_227 ?_
        refine v_sld C hX hbl E dL_law_228 (fun v31 _ E => ?_)
        obtain ⟨a32, h33, E⟩ := bnd E
        obtain ⟨hra32, hoa32⟩ := ob_is h33
        obtain ⟨q34, h35, E⟩ := bnd E
        refine v_callV (r := x2) (As := [.int v31]) (rv := (some (.int q34.1))) (st := [.int q29]) (st1 := [.int q34.1, .int q29]) (ce1 := (112 + (514 - (k + 1)) * 5)) (sl1 := (3245 + (514 - (k + 1)) * 1807)) C cv_L_27 (c_X12_of (x1 := v31) hoa32 h35) hra32 hoa32 rfl rfl ⟨rfl, rfl, Nat.le_of_ble_eq_true rfl, Nat.le_of_ble_eq_true rfl⟩ ⟨by show _ ≤ 600000; omega, by show _ ≤ 7302250; omega⟩ (Nat.le_of_ble_eq_true rfl) rfl rfl rfl dL_law_229 ?_
        refine v_icmp_eq C 1170 E dL_law_232 rfl (fun c36 E => ?_) (fun c36 E => ?_)
        · refine v_iinc (v := x3 + 6) C 3 [(3, .int (x3 + 6)), (0, va_rf (some b)), (1, va_rf x1), (2, va_rf x2)] dL_law_1170 rfl (k_inc_6 _) (Nat.le_of_ble_eq_true rfl) (by generalize x2 = rr; cases rr <;> rfl) ?_
          refine v_goto C 18 dL_law_1173 rfl ?_
          refine v_widen (k1 := (112 + (514 - k) * 5)) (k2 := (3245 + (514 - k) * 1807)) (by omega) (by omega) ?_
          exact v_sub [1, 2, 3, 0] [(0, va_rf (some b)), (1, va_rf x1), (2, va_rf x2), (3, .int (x3 + 6))] rfl (ih _ _ _ _ _ _ _ _ E)
        · refine v_iconst C dL_law_235 k_iconst_0 ?_
          obtain rfl := Option.some.inj E
          exact absurd hres (by show ¬ (0 : Int32) = 1; decide)
      have E := ite_f E c37
      by_cases c51 : (v1 &&& 31) = 3
      · have E := ite_t E c51
        refine v_tableIn (off := 204) C 237 dL_law_33 (by rw [c51]; decide) (by rw [c51]; decide) (by rw [c51]; rfl) rfl ?_
        refine v_aload_n (r := x1) C 1 dL_law_237 rfl ?_
        refine v_aload_n (r := (some b)) C 0 dL_law_238 rfl ?_
        refine v_iload_n C 3 dL_law_239 rfl ?_
        refine v_iconst C dL_law_240 k_iconst_1 ?_
        refine v_iadd C dL_law_241 ?_
        refine v_sld C hX hbl E dL_law_242 (fun v38 _ E => ?_)
        refine v_aload_n (r := (some b)) C 0 dL_law_243 rfl ?_
        refine v_iload_n C 3 dL_law_244 rfl ?_
        refine v_iconst C dL_law_245 k_iconst_2 ?_
        refine v_iadd C dL_law_246 ?_
        refine v_sld C hX hbl E dL_law_247 (fun v39 _ E => ?_)
        obtain ⟨a40, h41, E⟩ := bnd E
        obtain ⟨hra40, hoa40⟩ := ob_is h41
        obtain ⟨q42, h43, E⟩ := bnd E
        refine v_callV (r := x1) (As := [.int v38, .int v39]) (rv := (some (.int q42))) (st := []) (st1 := [.int q42]) (ce1 := (112 + (514 - (k + 1)) * 5)) (sl1 := (3245 + (514 - (k + 1)) * 1807)) C cv_L_28 (c_X11_holds (x1 := v38) (x2 := v39) hoa40 h43) hra40 hoa40 rfl rfl ⟨rfl, rfl, Nat.le_of_ble_eq_true rfl, Nat.le_of_ble_eq_true rfl⟩ ⟨by show _ ≤ 600000; omega, by show _ ≤ 7302250; omega⟩ (Nat.le_of_ble_eq_true rfl) rfl rfl rfl dL_law_248 ?_
        refine v_aload_n (r := x2) C 2 dL_law_251 rfl ?_
        refine v_aload_n (r := (some b)) C 0 dL_law_252 rfl ?_
        refine v_iload_n C 3 dL_law_253 rfl ?_
        refine v_iconst C dL_law_254 k_iconst_1 ?_
        refine v_iadd C dL_law_255 ?_
        refine v_sld C hX hbl E dL_law_256 (fun v44 _ E => ?_)
        refine v_aload_n (r := (some b)) C 0 dL_law_257 rfl ?_
        refine v_iload_n C 3 dL_law_258 rfl ?_
        refine v_iconst C dL_law_259 k_iconst_2 ?_
        refine v_iadd C dL_law_260 ?_
        refine v_sld C hX hbl E dL_law_261 (fun v45 _ E => ?_)
        obtain ⟨a46, h47, E⟩ := bnd E
        obtain ⟨hra46, hoa46⟩ := ob_is h47
        obtain ⟨q48, h49, E⟩ := bnd E
        refine v_callV (r := x2) (As := [.int v44, .int v45]) (rv := (some (.int q48.1))) (st := [.int q42]) (st1 := [.int q48.1, .int q42]) (ce1 := (112 + (514 - (k + 1)) * 5)) (sl1 := (3245 + (514 - (k + 1)) * 1807)) C cv_L_31 (c_X12_holds (x1 := v44) (x2 := v45) hoa46 h49) hra46 hoa46 rfl rfl ⟨rfl, rfl, Nat.le_of_ble_eq_true rfl, Nat.le_of_ble_eq_true rfl⟩ ⟨by show _ ≤ 600000; omega, by show _ ≤ 7302250; omega⟩ (Nat.le_of_ble_eq_true rfl) rfl rfl rfl dL_law_262 ?_
        refine v_icmp_eq C 1170 E dL_law_265 rfl (fun c50 E => ?_) (fun c50 E => ?_)
        · refine v_iinc (v := x3 + 6) C 3 [(3, .int (x3 + 6)), (0, va_rf (some b)), (1, va_rf x1), (2, va_rf x2)] dL_law_1170 rfl (k_inc_6 _) (Nat.le_of_ble_eq_true rfl) (by generalize x2 = rr; cases rr <;> rfl) ?_
          refine v_goto C 18 dL_law_1173 rfl ?_
          refine v_widen (k1 := (112 + (514 - k) * 5)) (k2 := (3245 + (514 - k) * 1807)) (by omega) (by omega) ?_
          exact v_sub [1, 2, 3, 0] [(0, va_rf (some b)), (1, va_rf x1), (2, va_rf x2), (3, .int (x3 + 6))] rfl (ih _ _ _ _ _ _ _ _ E)
        · refine v_iconst C dL_law_268 k_iconst_0 ?_
          obtain rfl := Option.some.inj E
          exact absurd hres (by show ¬ (0 : Int32) = 1; decide)
      have E := ite_f E c51
      by_cases c67 : (v1 &&& 31) = 4
      · have E := ite_t E c67
        refine v_tableIn (off := 237) C 270 dL_law_33 (by rw [c67]; decide) (by rw [c67]; decide) (by rw [c67]; rfl) rfl ?_
        refine v_aload_n (r := x1) C 1 dL_law_270 rfl ?_
        refine v_aload_n (r := (some b)) C 0 dL_law_271 rfl ?_
        refine v_iload_n C 3 dL_law_272 rfl ?_
        refine v_iconst C dL_law_273 k_iconst_1 ?_
        refine v_iadd C dL_law_274 ?_
        refine v_sld C hX hbl E dL_law_275 (fun v52 _ E => ?_)
        refine v_aload_n (r := (some b)) C 0 dL_law_276 rfl ?_
        refine v_iload_n C 3 dL_law_277 rfl ?_
        refine v_iconst C dL_law_278 k_iconst_2 ?_
        refine v_iadd C dL_law_279 ?_
        refine v_sld C hX hbl E dL_law_280 (fun v53 _ E => ?_)
        refine v_aload_n (r := (some b)) C 0 dL_law_281 rfl ?_
        refine v_iload_n C 3 dL_law_282 rfl ?_
        refine v_iconst C dL_law_283 k_iconst_3 ?_
        refine v_iadd C dL_law_284 ?_
        refine v_sld C hX hbl E dL_law_285 (fun v54 _ E => ?_)
        obtain ⟨a55, h56, E⟩ := bnd E
        obtain ⟨hra55, hoa55⟩ := ob_is h56
        obtain ⟨q57, h58, E⟩ := bnd E
        refine v_callV (r := x1) (As := [.int v52, .int v53, .int v54]) (rv := (some (.int q57))) (st := []) (st1 := [.int q57]) (ce1 := (112 + (514 - (k + 1)) * 5)) (sl1 := (3245 + (514 - (k + 1)) * 1807)) C cv_L_32 (c_X11_drinks (x1 := v52) (x2 := v53) (x3 := v54) hoa55 h58) hra55 hoa55 rfl rfl ⟨rfl, rfl, Nat.le_of_ble_eq_true rfl, Nat.le_of_ble_eq_true rfl⟩ ⟨by show _ ≤ 600000; omega, by show _ ≤ 7302250; omega⟩ (Nat.le_of_ble_eq_true rfl) rfl rfl rfl dL_law_286 ?_
        refine v_aload_n (r := x2) C 2 dL_law_289 rfl ?_
        refine v_aload_n (r := (some b)) C 0 dL_law_290 rfl ?_
        refine v_iload_n C 3 dL_law_291 rfl ?_
        refine v_iconst C dL_law_292 k_iconst_1 ?_
        refine v_iadd C dL_law_293 ?_
        refine v_sld C hX hbl E dL_law_294 (fun v59 _ E => ?_)
        refine v_aload_n (r := (some b)) C 0 dL_law_295 rfl ?_
        refine v_iload_n C 3 dL_law_296 rfl ?_
        refine v_iconst C dL_law_297 k_iconst_2 ?_
        refine v_iadd C dL_law_298 ?_
        refine v_sld C hX hbl E dL_law_299 (fun v60 _ E => ?_)
        refine v_aload_n (r := (some b)) C 0 dL_law_300 rfl ?_
        refine v_iload_n C 3 dL_law_301 rfl ?_
        refine v_iconst C dL_law_302 k_iconst_3 ?_
        refine v_iadd C dL_law_303 ?_
        refine v_sld C hX hbl E dL_law_304 (fun v61 _ E => ?_)
        obtain ⟨a62, h63, E⟩ := bnd E
        obtain ⟨hra62, hoa62⟩ := ob_is h63
        obtain ⟨q64, h65, E⟩ := bnd E
        refine v_callV (r := x2) (As := [.int v59, .int v60, .int v61]) (rv := (some (.int q64.1))) (st := [.int q57]) (st1 := [.int q64.1, .int q57]) (ce1 := (112 + (514 - (k + 1)) * 5)) (sl1 := (3245 + (514 - (k + 1)) * 1807)) C cv_L_36 (c_X12_drinks (x1 := v59) (x2 := v60) (x3 := v61) hoa62 h65) hra62 hoa62 rfl rfl ⟨rfl, rfl, Nat.le_of_ble_eq_true rfl, Nat.le_of_ble_eq_true rfl⟩ ⟨by show _ ≤ 600000; omega, by show _ ≤ 7302250; omega⟩ (Nat.le_of_ble_eq_true rfl) rfl rfl rfl dL_law_305 ?_
        refine v_icmp_eq C 1170 E dL_law_308 rfl (fun c66 E => ?_) (fun c66 E => ?_)
        · refine v_iinc (v := x3 + 6) C 3 [(3, .int (x3 + 6)), (0, va_rf (some b)), (1, va_rf x1), (2, va_rf x2)] dL_law_1170 rfl (k_inc_6 _) (Nat.le_of_ble_eq_true rfl) (by generalize x2 = rr; cases rr <;> rfl) ?_
          refine v_goto C 18 dL_law_1173 rfl ?_
          refine v_widen (k1 := (112 + (514 - k) * 5)) (k2 := (3245 + (514 - k) * 1807)) (by omega) (by omega) ?_
          exact v_sub [1, 2, 3, 0] [(0, va_rf (some b)), (1, va_rf x1), (2, va_rf x2), (3, .int (x3 + 6))] rfl (ih _ _ _ _ _ _ _ _ E)
        · refine v_iconst C dL_law_311 k_iconst_0 ?_
          obtain rfl := Option.some.inj E
          exact absurd hres (by show ¬ (0 : Int32) = 1; decide)
      have E := ite_f E c67
      by_cases c81 : (v1 &&& 31) = 5
      · have E := ite_t E c81
        refine v_tableIn (off := 280) C 313 dL_law_33 (by rw [c81]; decide) (by rw [c81]; decide) (by rw [c81]; rfl) rfl ?_
        refine v_aload_n (r := x1) C 1 dL_law_313 rfl ?_
        refine v_aload_n (r := (some b)) C 0 dL_law_314 rfl ?_
        refine v_iload_n C 3 dL_law_315 rfl ?_
        refine v_iconst C dL_law_316 k_iconst_1 ?_
        refine v_iadd C dL_law_317 ?_
        refine v_sld C hX hbl E dL_law_318 (fun v68 _ E => ?_)
        refine v_aload_n (r := (some b)) C 0 dL_law_319 rfl ?_
        refine v_iload_n C 3 dL_law_320 rfl ?_
        refine v_iconst C dL_law_321 k_iconst_2 ?_
        refine v_iadd C dL_law_322 ?_
        refine v_sld C hX hbl E dL_law_323 (fun v69 _ E => ?_)
        obtain ⟨a70, h71, E⟩ := bnd E
        obtain ⟨hra70, hoa70⟩ := ob_is h71
        obtain ⟨q72, h73, E⟩ := bnd E
        refine v_callV (r := x1) (As := [.int v68, .int v69]) (rv := (some (.int q72.1))) (st := []) (st1 := [.int q72.1]) (ce1 := (112 + (514 - (k + 1)) * 5)) (sl1 := (3245 + (514 - (k + 1)) * 1807)) C cv_L_37 (c_X11_odds (x1 := v68) (x2 := v69) hoa70 h73) hra70 hoa70 rfl rfl ⟨rfl, rfl, Nat.le_of_ble_eq_true rfl, Nat.le_of_ble_eq_true rfl⟩ ⟨by show _ ≤ 600000; omega, by show _ ≤ 7302250; omega⟩ (Nat.le_of_ble_eq_true rfl) rfl rfl rfl dL_law_324 ?_
        refine v_aload_n (r := x2) C 2 dL_law_327 rfl ?_
        refine v_aload_n (r := (some b)) C 0 dL_law_328 rfl ?_
        refine v_iload_n C 3 dL_law_329 rfl ?_
        refine v_iconst C dL_law_330 k_iconst_1 ?_
        refine v_iadd C dL_law_331 ?_
        refine v_sld C hX hbl E dL_law_332 (fun v74 _ E => ?_)
        refine v_aload_n (r := (some b)) C 0 dL_law_333 rfl ?_
        refine v_iload_n C 3 dL_law_334 rfl ?_
        refine v_iconst C dL_law_335 k_iconst_2 ?_
        refine v_iadd C dL_law_336 ?_
        refine v_sld C hX hbl E dL_law_337 (fun v75 _ E => ?_)
        obtain ⟨a76, h77, E⟩ := bnd E
        obtain ⟨hra76, hoa76⟩ := ob_is h77
        obtain ⟨q78, h79, E⟩ := bnd E
        refine v_callV (r := x2) (As := [.int v74, .int v75]) (rv := (some (.int q78.1))) (st := [.int q72.1]) (st1 := [.int q78.1, .int q72.1]) (ce1 := (112 + (514 - (k + 1)) * 5)) (sl1 := (3245 + (514 - (k + 1)) * 1807)) C cv_L_40 (c_X12_odds (x1 := v74) (x2 := v75) hoa76 h79) hra76 hoa76 rfl rfl ⟨rfl, rfl, Nat.le_of_ble_eq_true rfl, Nat.le_of_ble_eq_true rfl⟩ ⟨by show _ ≤ 600000; omega, by show _ ≤ 7302250; omega⟩ (Nat.le_of_ble_eq_true rfl) rfl rfl rfl dL_law_338 ?_
        refine v_icmp_eq C 1170 E dL_law_341 rfl (fun c80 E => ?_) (fun c80 E => ?_)
        · refine v_iinc (v := x3 + 6) C 3 [(3, .int (x3 + 6)), (0, va_rf (some b)), (1, va_rf x1), (2, va_rf x2)] dL_law_1170 rfl (k_inc_6 _) (Nat.le_of_ble_eq_true rfl) (by generalize x2 = rr; cases rr <;> rfl) ?_
          refine v_goto C 18 dL_law_1173 rfl ?_
          refine v_widen (k1 := (112 + (514 - k) * 5)) (k2 := (3245 + (514 - k) * 1807)) (by omega) (by omega) ?_
          exact v_sub [1, 2, 3, 0] [(0, va_rf (some b)), (1, va_rf x1), (2, va_rf x2), (3, .int (x3 + 6))] rfl (ih _ _ _ _ _ _ _ _ E)
        · refine v_iconst C dL_law_344 k_iconst_0 ?_
          obtain rfl := Option.some.inj E
          exact absurd hres (by show ¬ (0 : Int32) = 1; decide)
      have E := ite_f E c81
      by_cases c93 : (v1 &&& 31) = 6
      · have E := ite_t E c93
        refine v_tableIn (off := 313) C 346 dL_law_33 (by rw [c93]; decide) (by rw [c93]; decide) (by rw [c93]; rfl) rfl ?_
        refine v_aload_n (r := x1) C 1 dL_law_346 rfl ?_
        refine v_aload_n (r := (some b)) C 0 dL_law_347 rfl ?_
        refine v_iload_n C 3 dL_law_348 rfl ?_
        refine v_iconst C dL_law_349 k_iconst_1 ?_
        refine v_iadd C dL_law_350 ?_
        refine v_sld C hX hbl E dL_law_351 (fun v82 _ E => ?_)
        obtain ⟨a83, h84, E⟩ := bnd E
        obtain ⟨hra83, hoa83⟩ := ob_is h84
        obtain ⟨q85, h86, E⟩ := bnd E
        refine v_callV (r := x1) (As := [.int v82]) (rv := (some (.int q85))) (st := []) (st1 := [.int q85]) (ce1 := (112 + (514 - (k + 1)) * 5)) (sl1 := (3245 + (514 - (k + 1)) * 1807)) C cv_L_41 (c_X11_ever (x1 := v82) hoa83 h86) hra83 hoa83 rfl rfl ⟨rfl, rfl, Nat.le_of_ble_eq_true rfl, Nat.le_of_ble_eq_true rfl⟩ ⟨by show _ ≤ 600000; omega, by show _ ≤ 7302250; omega⟩ (Nat.le_of_ble_eq_true rfl) rfl rfl rfl dL_law_352 ?_
        refine v_aload_n (r := x2) C 2 dL_law_355 rfl ?_
        refine v_aload_n (r := (some b)) C 0 dL_law_356 rfl ?_
        refine v_iload_n C 3 dL_law_357 rfl ?_
        refine v_iconst C dL_law_358 k_iconst_1 ?_
        refine v_iadd C dL_law_359 ?_
        refine v_sld C hX hbl E dL_law_360 (fun v87 _ E => ?_)
        obtain ⟨a88, h89, E⟩ := bnd E
        obtain ⟨hra88, hoa88⟩ := ob_is h89
        obtain ⟨q90, h91, E⟩ := bnd E
        refine v_callV (r := x2) (As := [.int v87]) (rv := (some (.int q90.1))) (st := [.int q85]) (st1 := [.int q90.1, .int q85]) (ce1 := (112 + (514 - (k + 1)) * 5)) (sl1 := (3245 + (514 - (k + 1)) * 1807)) C cv_L_44 (c_X12_ever (x1 := v87) hoa88 h91) hra88 hoa88 rfl rfl ⟨rfl, rfl, Nat.le_of_ble_eq_true rfl, Nat.le_of_ble_eq_true rfl⟩ ⟨by show _ ≤ 600000; omega, by show _ ≤ 7302250; omega⟩ (Nat.le_of_ble_eq_true rfl) rfl rfl rfl dL_law_361 ?_
        refine v_icmp_eq C 1170 E dL_law_364 rfl (fun c92 E => ?_) (fun c92 E => ?_)
        · refine v_iinc (v := x3 + 6) C 3 [(3, .int (x3 + 6)), (0, va_rf (some b)), (1, va_rf x1), (2, va_rf x2)] dL_law_1170 rfl (k_inc_6 _) (Nat.le_of_ble_eq_true rfl) (by generalize x2 = rr; cases rr <;> rfl) ?_
          refine v_goto C 18 dL_law_1173 rfl ?_
          refine v_widen (k1 := (112 + (514 - k) * 5)) (k2 := (3245 + (514 - k) * 1807)) (by omega) (by omega) ?_
          exact v_sub [1, 2, 3, 0] [(0, va_rf (some b)), (1, va_rf x1), (2, va_rf x2), (3, .int (x3 + 6))] rfl (ih _ _ _ _ _ _ _ _ E)
        · refine v_iconst C dL_law_367 k_iconst_0 ?_
          obtain rfl := Option.some.inj E
          exact absurd hres (by show ¬ (0 : Int32) = 1; decide)
      have E := ite_f E c93
      by_cases c107 : (v1 &&& 31) = 7
      · have E := ite_t E c107
        refine v_tableIn (off := 336) C 369 dL_law_33 (by rw [c107]; decide) (by rw [c107]; decide) (by rw [c107]; rfl) rfl ?_
        refine v_aload_n (r := x1) C 1 dL_law_369 rfl ?_
        refine v_aload_n (r := (some b)) C 0 dL_law_370 rfl ?_
        refine v_iload_n C 3 dL_law_371 rfl ?_
        refine v_iconst C dL_law_372 k_iconst_1 ?_
        refine v_iadd C dL_law_373 ?_
        refine v_sld C hX hbl E dL_law_374 (fun v94 _ E => ?_)
        refine v_aload_n (r := (some b)) C 0 dL_law_375 rfl ?_
        refine v_iload_n C 3 dL_law_376 rfl ?_
        refine v_iconst C dL_law_377 k_iconst_2 ?_
        refine v_iadd C dL_law_378 ?_
        refine v_sld C hX hbl E dL_law_379 (fun v95 _ E => ?_)
        obtain ⟨a96, h97, E⟩ := bnd E
        obtain ⟨hra96, hoa96⟩ := ob_is h97
        obtain ⟨q98, h99, E⟩ := bnd E
        refine v_callV (r := x1) (As := [.int v94, .int v95]) (rv := (some (.int q98.1))) (st := []) (st1 := [.int q98.1]) (ce1 := ((112 + (514 - (k + 1)) * 5) + 2)) (sl1 := ((3245 + (514 - (k + 1)) * 1807) + 10)) C cv_L_45 (c_X11_rule (x1 := v94) (x2 := v95) h99) hra96 hoa96 rfl rfl ⟨rfl, rfl, Nat.le_of_ble_eq_true rfl, Nat.le_of_ble_eq_true rfl⟩ ⟨by show _ ≤ 600000; omega, by show _ ≤ 7302250; omega⟩ (Nat.le_of_ble_eq_true rfl) rfl rfl rfl dL_law_380 ?_
        refine v_aload_n (r := x2) C 2 dL_law_383 rfl ?_
        refine v_aload_n (r := (some b)) C 0 dL_law_384 rfl ?_
        refine v_iload_n C 3 dL_law_385 rfl ?_
        refine v_iconst C dL_law_386 k_iconst_1 ?_
        refine v_iadd C dL_law_387 ?_
        refine v_sld C hX hbl E dL_law_388 (fun v100 _ E => ?_)
        refine v_aload_n (r := (some b)) C 0 dL_law_389 rfl ?_
        refine v_iload_n C 3 dL_law_390 rfl ?_
        refine v_iconst C dL_law_391 k_iconst_2 ?_
        refine v_iadd C dL_law_392 ?_
        refine v_sld C hX hbl E dL_law_393 (fun v101 _ E => ?_)
        obtain ⟨a102, h103, E⟩ := bnd E
        obtain ⟨hra102, hoa102⟩ := ob_is h103
        obtain ⟨q104, h105, E⟩ := bnd E
        refine v_callV (r := x2) (As := [.int v100, .int v101]) (rv := (some (.int q104.1))) (st := [.int q98.1]) (st1 := [.int q104.1, .int q98.1]) (ce1 := ((112 + (514 - (k + 1)) * 5) + 2)) (sl1 := ((3245 + (514 - (k + 1)) * 1807) + 10)) C cv_L_48 (c_X12_rule (x1 := v100) (x2 := v101) hoa102 h105) hra102 hoa102 rfl rfl ⟨rfl, rfl, Nat.le_of_ble_eq_true rfl, Nat.le_of_ble_eq_true rfl⟩ ⟨by show _ ≤ 600000; omega, by show _ ≤ 7302250; omega⟩ (Nat.le_of_ble_eq_true rfl) rfl rfl rfl dL_law_394 ?_
        refine v_icmp_eq C 1170 E dL_law_397 rfl (fun c106 E => ?_) (fun c106 E => ?_)
        · refine v_iinc (v := x3 + 6) C 3 [(3, .int (x3 + 6)), (0, va_rf (some b)), (1, va_rf x1), (2, va_rf x2)] dL_law_1170 rfl (k_inc_6 _) (Nat.le_of_ble_eq_true rfl) (by generalize x2 = rr; cases rr <;> rfl) ?_
          refine v_goto C 18 dL_law_1173 rfl ?_
          refine v_widen (k1 := (112 + (514 - k) * 5)) (k2 := (3245 + (514 - k) * 1807)) (by omega) (by omega) ?_
          exact v_sub [1, 2, 3, 0] [(0, va_rf (some b)), (1, va_rf x1), (2, va_rf x2), (3, .int (x3 + 6))] rfl (ih _ _ _ _ _ _ _ _ E)
        · refine v_iconst C dL_law_400 k_iconst_0 ?_
          obtain rfl := Option.some.inj E
          exact absurd hres (by show ¬ (0 : Int32) = 1; decide)
      have E := ite_f E c107
      by_cases c121 : (v1 &&& 31) = 8
      · have E := ite_t E c121
        refine v_tableIn (off := 369) C 402 dL_law_33 (by rw [c121]; decide) (by rw [c121]; decide) (by rw [c121]; rfl) rfl ?_
        refine v_aload_n (r := x1) C 1 dL_law_402 rfl ?_
        refine v_aload_n (r := (some b)) C 0 dL_law_403 rfl ?_
        refine v_iload_n C 3 dL_law_404 rfl ?_
        refine v_iconst C dL_law_405 k_iconst_1 ?_
        refine v_iadd C dL_law_406 ?_
        refine v_sld C hX hbl E dL_law_407 (fun v108 _ E => ?_)
        refine v_aload_n (r := (some b)) C 0 dL_law_408 rfl ?_
        refine v_iload_n C 3 dL_law_409 rfl ?_
        refine v_iconst C dL_law_410 k_iconst_2 ?_
        refine v_iadd C dL_law_411 ?_
        refine v_sld C hX hbl E dL_law_412 (fun v109 _ E => ?_)
        obtain ⟨a110, h111, E⟩ := bnd E
        obtain ⟨hra110, hoa110⟩ := ob_is h111
        obtain ⟨q112, h113, E⟩ := bnd E
        refine v_callV (r := x1) (As := [.int v108, .int v109]) (rv := (some (.int q112.1))) (st := []) (st1 := [.int q112.1]) (ce1 := (112 + (514 - (k + 1)) * 5)) (sl1 := (3245 + (514 - (k + 1)) * 1807)) C cv_L_49 (c_X11_row (x1 := v108) (x2 := v109) hoa110 h113) hra110 hoa110 rfl rfl ⟨rfl, rfl, Nat.le_of_ble_eq_true rfl, Nat.le_of_ble_eq_true rfl⟩ ⟨by show _ ≤ 600000; omega, by show _ ≤ 7302250; omega⟩ (Nat.le_of_ble_eq_true rfl) rfl rfl rfl dL_law_413 ?_
        refine v_aload_n (r := x2) C 2 dL_law_416 rfl ?_
        refine v_aload_n (r := (some b)) C 0 dL_law_417 rfl ?_
        refine v_iload_n C 3 dL_law_418 rfl ?_
        refine v_iconst C dL_law_419 k_iconst_1 ?_
        refine v_iadd C dL_law_420 ?_
        refine v_sld C hX hbl E dL_law_421 (fun v114 _ E => ?_)
        refine v_aload_n (r := (some b)) C 0 dL_law_422 rfl ?_
        refine v_iload_n C 3 dL_law_423 rfl ?_
        refine v_iconst C dL_law_424 k_iconst_2 ?_
        refine v_iadd C dL_law_425 ?_
        refine v_sld C hX hbl E dL_law_426 (fun v115 _ E => ?_)
        obtain ⟨a116, h117, E⟩ := bnd E
        obtain ⟨hra116, hoa116⟩ := ob_is h117
        obtain ⟨q118, h119, E⟩ := bnd E
        refine v_callV (r := x2) (As := [.int v114, .int v115]) (rv := (some (.int q118.1))) (st := [.int q112.1]) (st1 := [.int q118.1, .int q112.1]) (ce1 := (112 + (514 - (k + 1)) * 5)) (sl1 := (3245 + (514 - (k + 1)) * 1807)) C cv_L_52 (c_X12_row (x1 := v114) (x2 := v115) hoa116 h119) hra116 hoa116 rfl rfl ⟨rfl, rfl, Nat.le_of_ble_eq_true rfl, Nat.le_of_ble_eq_true rfl⟩ ⟨by show _ ≤ 600000; omega, by show _ ≤ 7302250; omega⟩ (Nat.le_of_ble_eq_true rfl) rfl rfl rfl dL_law_427 ?_
        refine v_icmp_eq C 1170 E dL_law_430 rfl (fun c120 E => ?_) (fun c120 E => ?_)
        · refine v_iinc (v := x3 + 6) C 3 [(3, .int (x3 + 6)), (0, va_rf (some b)), (1, va_rf x1), (2, va_rf x2)] dL_law_1170 rfl (k_inc_6 _) (Nat.le_of_ble_eq_true rfl) (by generalize x2 = rr; cases rr <;> rfl) ?_
          refine v_goto C 18 dL_law_1173 rfl ?_
          refine v_widen (k1 := (112 + (514 - k) * 5)) (k2 := (3245 + (514 - k) * 1807)) (by omega) (by omega) ?_
          exact v_sub [1, 2, 3, 0] [(0, va_rf (some b)), (1, va_rf x1), (2, va_rf x2), (3, .int (x3 + 6))] rfl (ih _ _ _ _ _ _ _ _ E)
        · refine v_iconst C dL_law_433 k_iconst_0 ?_
          obtain rfl := Option.some.inj E
          exact absurd hres (by show ¬ (0 : Int32) = 1; decide)
      have E := ite_f E c121
      by_cases c137 : (v1 &&& 31) = 9
      · have E := ite_t E c137
        refine v_tableIn (off := 402) C 435 dL_law_33 (by rw [c137]; decide) (by rw [c137]; decide) (by rw [c137]; rfl) rfl ?_
        refine v_aload_n (r := x1) C 1 dL_law_435 rfl ?_
        refine v_aload_n (r := (some b)) C 0 dL_law_436 rfl ?_
        refine v_iload_n C 3 dL_law_437 rfl ?_
        refine v_iconst C dL_law_438 k_iconst_1 ?_
        refine v_iadd C dL_law_439 ?_
        refine v_sld C hX hbl E dL_law_440 (fun v122 _ E => ?_)
        refine v_aload_n (r := (some b)) C 0 dL_law_441 rfl ?_
        refine v_iload_n C 3 dL_law_442 rfl ?_
        refine v_iconst C dL_law_443 k_iconst_2 ?_
        refine v_iadd C dL_law_444 ?_
        refine v_sld C hX hbl E dL_law_445 (fun v123 _ E => ?_)
        refine v_aload_n (r := (some b)) C 0 dL_law_446 rfl ?_
        refine v_iload_n C 3 dL_law_447 rfl ?_
        refine v_iconst C dL_law_448 k_iconst_3 ?_
        refine v_iadd C dL_law_449 ?_
        refine v_sld C hX hbl E dL_law_450 (fun v124 _ E => ?_)
        obtain ⟨a125, h126, E⟩ := bnd E
        obtain ⟨hra125, hoa125⟩ := ob_is h126
        obtain ⟨q127, h128, E⟩ := bnd E
        refine v_callV (r := x1) (As := [.int v122, .int v123, .int v124]) (rv := (some (.int q127.1))) (st := []) (st1 := [.int q127.1]) (ce1 := ((112 + (514 - (k + 1)) * 5) + 1)) (sl1 := ((3245 + (514 - (k + 1)) * 1807) + 3)) C cv_L_53 (c_X11_caravan (x1 := v122) (x2 := v123) (x3 := v124) h128) hra125 hoa125 rfl rfl ⟨rfl, rfl, Nat.le_of_ble_eq_true rfl, Nat.le_of_ble_eq_true rfl⟩ ⟨by show _ ≤ 600000; omega, by show _ ≤ 7302250; omega⟩ (Nat.le_of_ble_eq_true rfl) rfl rfl rfl dL_law_451 ?_
        refine v_aload_n (r := x2) C 2 dL_law_454 rfl ?_
        refine v_aload_n (r := (some b)) C 0 dL_law_455 rfl ?_
        refine v_iload_n C 3 dL_law_456 rfl ?_
        refine v_iconst C dL_law_457 k_iconst_1 ?_
        refine v_iadd C dL_law_458 ?_
        refine v_sld C hX hbl E dL_law_459 (fun v129 _ E => ?_)
        refine v_aload_n (r := (some b)) C 0 dL_law_460 rfl ?_
        refine v_iload_n C 3 dL_law_461 rfl ?_
        refine v_iconst C dL_law_462 k_iconst_2 ?_
        refine v_iadd C dL_law_463 ?_
        refine v_sld C hX hbl E dL_law_464 (fun v130 _ E => ?_)
        refine v_aload_n (r := (some b)) C 0 dL_law_465 rfl ?_
        refine v_iload_n C 3 dL_law_466 rfl ?_
        refine v_iconst C dL_law_467 k_iconst_3 ?_
        refine v_iadd C dL_law_468 ?_
        refine v_sld C hX hbl E dL_law_469 (fun v131 _ E => ?_)
        obtain ⟨a132, h133, E⟩ := bnd E
        obtain ⟨hra132, hoa132⟩ := ob_is h133
        obtain ⟨q134, h135, E⟩ := bnd E
        refine v_callV (r := x2) (As := [.int v129, .int v130, .int v131]) (rv := (some (.int q134.1))) (st := [.int q127.1]) (st1 := [.int q134.1, .int q127.1]) (ce1 := ((112 + (514 - (k + 1)) * 5) + 1)) (sl1 := ((3245 + (514 - (k + 1)) * 1807) + 3)) C cv_L_56 (c_X12_caravan (x1 := v129) (x2 := v130) (x3 := v131) hoa132 h135) hra132 hoa132 rfl rfl ⟨rfl, rfl, Nat.le_of_ble_eq_true rfl, Nat.le_of_ble_eq_true rfl⟩ ⟨by show _ ≤ 600000; omega, by show _ ≤ 7302250; omega⟩ (Nat.le_of_ble_eq_true rfl) rfl rfl rfl dL_law_470 ?_
        refine v_icmp_eq C 1170 E dL_law_473 rfl (fun c136 E => ?_) (fun c136 E => ?_)
        · refine v_iinc (v := x3 + 6) C 3 [(3, .int (x3 + 6)), (0, va_rf (some b)), (1, va_rf x1), (2, va_rf x2)] dL_law_1170 rfl (k_inc_6 _) (Nat.le_of_ble_eq_true rfl) (by generalize x2 = rr; cases rr <;> rfl) ?_
          refine v_goto C 18 dL_law_1173 rfl ?_
          refine v_widen (k1 := (112 + (514 - k) * 5)) (k2 := (3245 + (514 - k) * 1807)) (by omega) (by omega) ?_
          exact v_sub [1, 2, 3, 0] [(0, va_rf (some b)), (1, va_rf x1), (2, va_rf x2), (3, .int (x3 + 6))] rfl (ih _ _ _ _ _ _ _ _ E)
        · refine v_iconst C dL_law_476 k_iconst_0 ?_
          obtain rfl := Option.some.inj E
          exact absurd hres (by show ¬ (0 : Int32) = 1; decide)
      have E := ite_f E c137
      by_cases c151 : (v1 &&& 31) = 10
      · have E := ite_t E c151
        refine v_tableIn (off := 445) C 478 dL_law_33 (by rw [c151]; decide) (by rw [c151]; decide) (by rw [c151]; rfl) rfl ?_
        refine v_aload_n (r := x1) C 1 dL_law_478 rfl ?_
        refine v_aload_n (r := (some b)) C 0 dL_law_479 rfl ?_
        refine v_iload_n C 3 dL_law_480 rfl ?_
        refine v_iconst C dL_law_481 k_iconst_1 ?_
        refine v_iadd C dL_law_482 ?_
        refine v_sld C hX hbl E dL_law_483 (fun v138 _ E => ?_)
        refine v_aload_n (r := (some b)) C 0 dL_law_484 rfl ?_
        refine v_iload_n C 3 dL_law_485 rfl ?_
        refine v_iconst C dL_law_486 k_iconst_2 ?_
        refine v_iadd C dL_law_487 ?_
        refine v_sld C hX hbl E dL_law_488 (fun v139 _ E => ?_)
        obtain ⟨a140, h141, E⟩ := bnd E
        obtain ⟨hra140, hoa140⟩ := ob_is h141
        obtain ⟨q142, h143, E⟩ := bnd E
        refine v_callV (r := x1) (As := [.int v138, .int v139]) (rv := (some (.int q142.1))) (st := []) (st1 := [.int q142.1]) (ce1 := (112 + (514 - (k + 1)) * 5)) (sl1 := (3245 + (514 - (k + 1)) * 1807)) C cv_L_57 (c_X11_would (x1 := v138) (x2 := v139) hoa140 h143) hra140 hoa140 rfl rfl ⟨rfl, rfl, Nat.le_of_ble_eq_true rfl, Nat.le_of_ble_eq_true rfl⟩ ⟨by show _ ≤ 600000; omega, by show _ ≤ 7302250; omega⟩ (Nat.le_of_ble_eq_true rfl) rfl rfl rfl dL_law_489 ?_
        refine v_aload_n (r := x2) C 2 dL_law_492 rfl ?_
        refine v_aload_n (r := (some b)) C 0 dL_law_493 rfl ?_
        refine v_iload_n C 3 dL_law_494 rfl ?_
        refine v_iconst C dL_law_495 k_iconst_1 ?_
        refine v_iadd C dL_law_496 ?_
        refine v_sld C hX hbl E dL_law_497 (fun v144 _ E => ?_)
        refine v_aload_n (r := (some b)) C 0 dL_law_498 rfl ?_
        refine v_iload_n C 3 dL_law_499 rfl ?_
        refine v_iconst C dL_law_500 k_iconst_2 ?_
        refine v_iadd C dL_law_501 ?_
        refine v_sld C hX hbl E dL_law_502 (fun v145 _ E => ?_)
        obtain ⟨a146, h147, E⟩ := bnd E
        obtain ⟨hra146, hoa146⟩ := ob_is h147
        obtain ⟨q148, h149, E⟩ := bnd E
        refine v_callV (r := x2) (As := [.int v144, .int v145]) (rv := (some (.int q148.1))) (st := [.int q142.1]) (st1 := [.int q148.1, .int q142.1]) (ce1 := (112 + (514 - (k + 1)) * 5)) (sl1 := (3245 + (514 - (k + 1)) * 1807)) C cv_L_60 (c_X12_would (x1 := v144) (x2 := v145) hoa146 h149) hra146 hoa146 rfl rfl ⟨rfl, rfl, Nat.le_of_ble_eq_true rfl, Nat.le_of_ble_eq_true rfl⟩ ⟨by show _ ≤ 600000; omega, by show _ ≤ 7302250; omega⟩ (Nat.le_of_ble_eq_true rfl) rfl rfl rfl dL_law_503 ?_
        refine v_icmp_eq C 1170 E dL_law_506 rfl (fun c150 E => ?_) (fun c150 E => ?_)
        · refine v_iinc (v := x3 + 6) C 3 [(3, .int (x3 + 6)), (0, va_rf (some b)), (1, va_rf x1), (2, va_rf x2)] dL_law_1170 rfl (k_inc_6 _) (Nat.le_of_ble_eq_true rfl) (by generalize x2 = rr; cases rr <;> rfl) ?_
          refine v_goto C 18 dL_law_1173 rfl ?_
          refine v_widen (k1 := (112 + (514 - k) * 5)) (k2 := (3245 + (514 - k) * 1807)) (by omega) (by omega) ?_
          exact v_sub [1, 2, 3, 0] [(0, va_rf (some b)), (1, va_rf x1), (2, va_rf x2), (3, .int (x3 + 6))] rfl (ih _ _ _ _ _ _ _ _ E)
        · refine v_iconst C dL_law_509 k_iconst_0 ?_
          obtain rfl := Option.some.inj E
          exact absurd hres (by show ¬ (0 : Int32) = 1; decide)
      have E := ite_f E c151
      by_cases c163 : (v1 &&& 31) = 11
      · have E := ite_t E c163
        refine v_tableIn (off := 478) C 511 dL_law_33 (by rw [c163]; decide) (by rw [c163]; decide) (by rw [c163]; rfl) rfl ?_
        refine v_aload_n (r := x1) C 1 dL_law_511 rfl ?_
        refine v_aload_n (r := (some b)) C 0 dL_law_512 rfl ?_
        refine v_iload_n C 3 dL_law_513 rfl ?_
        refine v_iconst C dL_law_514 k_iconst_1 ?_
        refine v_iadd C dL_law_515 ?_
        refine v_sld C hX hbl E dL_law_516 (fun v152 _ E => ?_)
        obtain ⟨a153, h154, E⟩ := bnd E
        obtain ⟨hra153, hoa153⟩ := ob_is h154
        obtain ⟨q155, h156, E⟩ := bnd E
        refine v_callV (r := x1) (As := [.int v152]) (rv := (some (.int q155.1))) (st := []) (st1 := [.int q155.1]) (ce1 := (112 + (514 - (k + 1)) * 5)) (sl1 := (3245 + (514 - (k + 1)) * 1807)) C cv_L_61 (c_X11_goes (x1 := v152) hoa153 h156) hra153 hoa153 rfl rfl ⟨rfl, rfl, Nat.le_of_ble_eq_true rfl, Nat.le_of_ble_eq_true rfl⟩ ⟨by show _ ≤ 600000; omega, by show _ ≤ 7302250; omega⟩ (Nat.le_of_ble_eq_true rfl) rfl rfl rfl dL_law_517 ?_
        refine v_aload_n (r := x2) C 2 dL_law_520 rfl ?_
        refine v_aload_n (r := (some b)) C 0 dL_law_521 rfl ?_
        refine v_iload_n C 3 dL_law_522 rfl ?_
        refine v_iconst C dL_law_523 k_iconst_1 ?_
        refine v_iadd C dL_law_524 ?_
        refine v_sld C hX hbl E dL_law_525 (fun v157 _ E => ?_)
        obtain ⟨a158, h159, E⟩ := bnd E
        obtain ⟨hra158, hoa158⟩ := ob_is h159
        obtain ⟨q160, h161, E⟩ := bnd E
        refine v_callV (r := x2) (As := [.int v157]) (rv := (some (.int q160.1))) (st := [.int q155.1]) (st1 := [.int q160.1, .int q155.1]) (ce1 := (112 + (514 - (k + 1)) * 5)) (sl1 := (3245 + (514 - (k + 1)) * 1807)) C cv_L_64 (c_X12_goes (x1 := v157) hoa158 h161) hra158 hoa158 rfl rfl ⟨rfl, rfl, Nat.le_of_ble_eq_true rfl, Nat.le_of_ble_eq_true rfl⟩ ⟨by show _ ≤ 600000; omega, by show _ ≤ 7302250; omega⟩ (Nat.le_of_ble_eq_true rfl) rfl rfl rfl dL_law_526 ?_
        refine v_icmp_eq C 1170 E dL_law_529 rfl (fun c162 E => ?_) (fun c162 E => ?_)
        · refine v_iinc (v := x3 + 6) C 3 [(3, .int (x3 + 6)), (0, va_rf (some b)), (1, va_rf x1), (2, va_rf x2)] dL_law_1170 rfl (k_inc_6 _) (Nat.le_of_ble_eq_true rfl) (by generalize x2 = rr; cases rr <;> rfl) ?_
          refine v_goto C 18 dL_law_1173 rfl ?_
          refine v_widen (k1 := (112 + (514 - k) * 5)) (k2 := (3245 + (514 - k) * 1807)) (by omega) (by omega) ?_
          exact v_sub [1, 2, 3, 0] [(0, va_rf (some b)), (1, va_rf x1), (2, va_rf x2), (3, .int (x3 + 6))] rfl (ih _ _ _ _ _ _ _ _ E)
        · refine v_iconst C dL_law_532 k_iconst_0 ?_
          obtain rfl := Option.some.inj E
          exact absurd hres (by show ¬ (0 : Int32) = 1; decide)
      have E := ite_f E c163
      by_cases c175 : (v1 &&& 31) = 12
      · have E := ite_t E c175
        refine v_tableIn (off := 501) C 534 dL_law_33 (by rw [c175]; decide) (by rw [c175]; decide) (by rw [c175]; rfl) rfl ?_
        refine v_aload_n (r := x1) C 1 dL_law_534 rfl ?_
        refine v_aload_n (r := (some b)) C 0 dL_law_535 rfl ?_
        refine v_iload_n C 3 dL_law_536 rfl ?_
        refine v_iconst C dL_law_537 k_iconst_1 ?_
        refine v_iadd C dL_law_538 ?_
        refine v_sld C hX hbl E dL_law_539 (fun v164 _ E => ?_)
        obtain ⟨a165, h166, E⟩ := bnd E
        obtain ⟨hra165, hoa165⟩ := ob_is h166
        obtain ⟨q167, h168, E⟩ := bnd E
        refine v_callV (r := x1) (As := [.int v164]) (rv := (some (.int q167.1))) (st := []) (st1 := [.int q167.1]) (ce1 := (112 + (514 - (k + 1)) * 5)) (sl1 := (3245 + (514 - (k + 1)) * 1807)) C cv_L_65 (c_X11_hand (x1 := v164) hoa165 h168) hra165 hoa165 rfl rfl ⟨rfl, rfl, Nat.le_of_ble_eq_true rfl, Nat.le_of_ble_eq_true rfl⟩ ⟨by show _ ≤ 600000; omega, by show _ ≤ 7302250; omega⟩ (Nat.le_of_ble_eq_true rfl) rfl rfl rfl dL_law_540 ?_
        refine v_aload_n (r := x2) C 2 dL_law_543 rfl ?_
        refine v_aload_n (r := (some b)) C 0 dL_law_544 rfl ?_
        refine v_iload_n C 3 dL_law_545 rfl ?_
        refine v_iconst C dL_law_546 k_iconst_1 ?_
        refine v_iadd C dL_law_547 ?_
        refine v_sld C hX hbl E dL_law_548 (fun v169 _ E => ?_)
        obtain ⟨a170, h171, E⟩ := bnd E
        obtain ⟨hra170, hoa170⟩ := ob_is h171
        obtain ⟨q172, h173, E⟩ := bnd E
        refine v_callV (r := x2) (As := [.int v169]) (rv := (some (.int q172.1))) (st := [.int q167.1]) (st1 := [.int q172.1, .int q167.1]) (ce1 := (112 + (514 - (k + 1)) * 5)) (sl1 := (3245 + (514 - (k + 1)) * 1807)) C cv_L_68 (c_X12_hand (x1 := v169) hoa170 h173) hra170 hoa170 rfl rfl ⟨rfl, rfl, Nat.le_of_ble_eq_true rfl, Nat.le_of_ble_eq_true rfl⟩ ⟨by show _ ≤ 600000; omega, by show _ ≤ 7302250; omega⟩ (Nat.le_of_ble_eq_true rfl) rfl rfl rfl dL_law_549 ?_
        refine v_icmp_eq C 1170 E dL_law_552 rfl (fun c174 E => ?_) (fun c174 E => ?_)
        · refine v_iinc (v := x3 + 6) C 3 [(3, .int (x3 + 6)), (0, va_rf (some b)), (1, va_rf x1), (2, va_rf x2)] dL_law_1170 rfl (k_inc_6 _) (Nat.le_of_ble_eq_true rfl) (by generalize x2 = rr; cases rr <;> rfl) ?_
          refine v_goto C 18 dL_law_1173 rfl ?_
          refine v_widen (k1 := (112 + (514 - k) * 5)) (k2 := (3245 + (514 - k) * 1807)) (by omega) (by omega) ?_
          exact v_sub [1, 2, 3, 0] [(0, va_rf (some b)), (1, va_rf x1), (2, va_rf x2), (3, .int (x3 + 6))] rfl (ih _ _ _ _ _ _ _ _ E)
        · refine v_iconst C dL_law_555 k_iconst_0 ?_
          obtain rfl := Option.some.inj E
          exact absurd hres (by show ¬ (0 : Int32) = 1; decide)
      have E := ite_f E c175
      by_cases c189 : (v1 &&& 31) = 13
      · have E := ite_t E c189
        refine v_tableIn (off := 524) C 557 dL_law_33 (by rw [c189]; decide) (by rw [c189]; decide) (by rw [c189]; rfl) rfl ?_
        refine v_aload_n (r := x1) C 1 dL_law_557 rfl ?_
        refine v_aload_n (r := (some b)) C 0 dL_law_558 rfl ?_
        refine v_iload_n C 3 dL_law_559 rfl ?_
        refine v_iconst C dL_law_560 k_iconst_1 ?_
        refine v_iadd C dL_law_561 ?_
        refine v_sld C hX hbl E dL_law_562 (fun v176 _ E => ?_)
        refine v_aload_n (r := (some b)) C 0 dL_law_563 rfl ?_
        refine v_iload_n C 3 dL_law_564 rfl ?_
        refine v_iconst C dL_law_565 k_iconst_2 ?_
        refine v_iadd C dL_law_566 ?_
        refine v_sld C hX hbl E dL_law_567 (fun v177 _ E => ?_)
        obtain ⟨a178, h179, E⟩ := bnd E
        obtain ⟨hra178, hoa178⟩ := ob_is h179
        obtain ⟨q180, h181, E⟩ := bnd E
        refine v_callV (r := x1) (As := [.int v176, .int v177]) (rv := (some (.int q180.1))) (st := []) (st1 := [.int q180.1]) (ce1 := (112 + (514 - (k + 1)) * 5)) (sl1 := (3245 + (514 - (k + 1)) * 1807)) C cv_L_69 (c_X11_gone (x1 := v176) (x2 := v177) hoa178 h181) hra178 hoa178 rfl rfl ⟨rfl, rfl, Nat.le_of_ble_eq_true rfl, Nat.le_of_ble_eq_true rfl⟩ ⟨by show _ ≤ 600000; omega, by show _ ≤ 7302250; omega⟩ (Nat.le_of_ble_eq_true rfl) rfl rfl rfl dL_law_568 ?_
        refine v_aload_n (r := x2) C 2 dL_law_571 rfl ?_
        refine v_aload_n (r := (some b)) C 0 dL_law_572 rfl ?_
        refine v_iload_n C 3 dL_law_573 rfl ?_
        refine v_iconst C dL_law_574 k_iconst_1 ?_
        refine v_iadd C dL_law_575 ?_
        refine v_sld C hX hbl E dL_law_576 (fun v182 _ E => ?_)
        refine v_aload_n (r := (some b)) C 0 dL_law_577 rfl ?_
        refine v_iload_n C 3 dL_law_578 rfl ?_
        refine v_iconst C dL_law_579 k_iconst_2 ?_
        refine v_iadd C dL_law_580 ?_
        refine v_sld C hX hbl E dL_law_581 (fun v183 _ E => ?_)
        obtain ⟨a184, h185, E⟩ := bnd E
        obtain ⟨hra184, hoa184⟩ := ob_is h185
        obtain ⟨q186, h187, E⟩ := bnd E
        refine v_callV (r := x2) (As := [.int v182, .int v183]) (rv := (some (.int q186.1))) (st := [.int q180.1]) (st1 := [.int q186.1, .int q180.1]) (ce1 := (112 + (514 - (k + 1)) * 5)) (sl1 := (3245 + (514 - (k + 1)) * 1807)) C cv_L_72 (c_X12_gone (x1 := v182) (x2 := v183) hoa184 h187) hra184 hoa184 rfl rfl ⟨rfl, rfl, Nat.le_of_ble_eq_true rfl, Nat.le_of_ble_eq_true rfl⟩ ⟨by show _ ≤ 600000; omega, by show _ ≤ 7302250; omega⟩ (Nat.le_of_ble_eq_true rfl) rfl rfl rfl dL_law_582 ?_
        refine v_icmp_eq C 1170 E dL_law_585 rfl (fun c188 E => ?_) (fun c188 E => ?_)
        · refine v_iinc (v := x3 + 6) C 3 [(3, .int (x3 + 6)), (0, va_rf (some b)), (1, va_rf x1), (2, va_rf x2)] dL_law_1170 rfl (k_inc_6 _) (Nat.le_of_ble_eq_true rfl) (by generalize x2 = rr; cases rr <;> rfl) ?_
          refine v_goto C 18 dL_law_1173 rfl ?_
          refine v_widen (k1 := (112 + (514 - k) * 5)) (k2 := (3245 + (514 - k) * 1807)) (by omega) (by omega) ?_
          exact v_sub [1, 2, 3, 0] [(0, va_rf (some b)), (1, va_rf x1), (2, va_rf x2), (3, .int (x3 + 6))] rfl (ih _ _ _ _ _ _ _ _ E)
        · refine v_iconst C dL_law_588 k_iconst_0 ?_
          obtain rfl := Option.some.inj E
          exact absurd hres (by show ¬ (0 : Int32) = 1; decide)
      have E := ite_f E c189
      by_cases c205 : (v1 &&& 31) = 14
      · have E := ite_t E c205
        refine v_tableIn (off := 557) C 590 dL_law_33 (by rw [c205]; decide) (by rw [c205]; decide) (by rw [c205]; rfl) rfl ?_
        refine v_aload_n (r := x1) C 1 dL_law_590 rfl ?_
        refine v_aload_n (r := (some b)) C 0 dL_law_591 rfl ?_
        refine v_iload_n C 3 dL_law_592 rfl ?_
        refine v_iconst C dL_law_593 k_iconst_1 ?_
        refine v_iadd C dL_law_594 ?_
        refine v_sld C hX hbl E dL_law_595 (fun v190 _ E => ?_)
        refine v_aload_n (r := (some b)) C 0 dL_law_596 rfl ?_
        refine v_iload_n C 3 dL_law_597 rfl ?_
        refine v_iconst C dL_law_598 k_iconst_2 ?_
        refine v_iadd C dL_law_599 ?_
        refine v_sld C hX hbl E dL_law_600 (fun v191 _ E => ?_)
        refine v_aload_n (r := (some b)) C 0 dL_law_601 rfl ?_
        refine v_iload_n C 3 dL_law_602 rfl ?_
        refine v_iconst C dL_law_603 k_iconst_3 ?_
        refine v_iadd C dL_law_604 ?_
        refine v_sld C hX hbl E dL_law_605 (fun v192 _ E => ?_)
        obtain ⟨a193, h194, E⟩ := bnd E
        obtain ⟨hra193, hoa193⟩ := ob_is h194
        obtain ⟨q195, h196, E⟩ := bnd E
        refine v_callV (r := x1) (As := [.int v190, .int v191, .int v192]) (rv := (some (.int q195.1))) (st := []) (st1 := [.int q195.1]) (ce1 := (112 + (514 - (k + 1)) * 5)) (sl1 := (3245 + (514 - (k + 1)) * 1807)) C cv_L_73 (c_X11_size (x1 := v190) (x2 := v191) (x3 := v192) hoa193 h196) hra193 hoa193 rfl rfl ⟨rfl, rfl, Nat.le_of_ble_eq_true rfl, Nat.le_of_ble_eq_true rfl⟩ ⟨by show _ ≤ 600000; omega, by show _ ≤ 7302250; omega⟩ (Nat.le_of_ble_eq_true rfl) rfl rfl rfl dL_law_606 ?_
        refine v_aload_n (r := x2) C 2 dL_law_609 rfl ?_
        refine v_aload_n (r := (some b)) C 0 dL_law_610 rfl ?_
        refine v_iload_n C 3 dL_law_611 rfl ?_
        refine v_iconst C dL_law_612 k_iconst_1 ?_
        refine v_iadd C dL_law_613 ?_
        refine v_sld C hX hbl E dL_law_614 (fun v197 _ E => ?_)
        refine v_aload_n (r := (some b)) C 0 dL_law_615 rfl ?_
        refine v_iload_n C 3 dL_law_616 rfl ?_
        refine v_iconst C dL_law_617 k_iconst_2 ?_
        refine v_iadd C dL_law_618 ?_
        refine v_sld C hX hbl E dL_law_619 (fun v198 _ E => ?_)
        refine v_aload_n (r := (some b)) C 0 dL_law_620 rfl ?_
        refine v_iload_n C 3 dL_law_621 rfl ?_
        refine v_iconst C dL_law_622 k_iconst_3 ?_
        refine v_iadd C dL_law_623 ?_
        refine v_sld C hX hbl E dL_law_624 (fun v199 _ E => ?_)
        obtain ⟨a200, h201, E⟩ := bnd E
        obtain ⟨hra200, hoa200⟩ := ob_is h201
        obtain ⟨q202, h203, E⟩ := bnd E
        refine v_callV (r := x2) (As := [.int v197, .int v198, .int v199]) (rv := (some (.int q202.1))) (st := [.int q195.1]) (st1 := [.int q202.1, .int q195.1]) (ce1 := (112 + (514 - (k + 1)) * 5)) (sl1 := (3245 + (514 - (k + 1)) * 1807)) C cv_L_76 (c_X12_size (x1 := v197) (x2 := v198) (x3 := v199) hoa200 h203) hra200 hoa200 rfl rfl ⟨rfl, rfl, Nat.le_of_ble_eq_true rfl, Nat.le_of_ble_eq_true rfl⟩ ⟨by show _ ≤ 600000; omega, by show _ ≤ 7302250; omega⟩ (Nat.le_of_ble_eq_true rfl) rfl rfl rfl dL_law_625 ?_
        refine v_icmp_eq C 1170 E dL_law_628 rfl (fun c204 E => ?_) (fun c204 E => ?_)
        · refine v_iinc (v := x3 + 6) C 3 [(3, .int (x3 + 6)), (0, va_rf (some b)), (1, va_rf x1), (2, va_rf x2)] dL_law_1170 rfl (k_inc_6 _) (Nat.le_of_ble_eq_true rfl) (by generalize x2 = rr; cases rr <;> rfl) ?_
          refine v_goto C 18 dL_law_1173 rfl ?_
          refine v_widen (k1 := (112 + (514 - k) * 5)) (k2 := (3245 + (514 - k) * 1807)) (by omega) (by omega) ?_
          exact v_sub [1, 2, 3, 0] [(0, va_rf (some b)), (1, va_rf x1), (2, va_rf x2), (3, .int (x3 + 6))] rfl (ih _ _ _ _ _ _ _ _ E)
        · refine v_iconst C dL_law_631 k_iconst_0 ?_
          obtain rfl := Option.some.inj E
          exact absurd hres (by show ¬ (0 : Int32) = 1; decide)
      have E := ite_f E c205
      by_cases c217 : (v1 &&& 31) = 15
      · have E := ite_t E c217
        refine v_tableIn (off := 600) C 633 dL_law_33 (by rw [c217]; decide) (by rw [c217]; decide) (by rw [c217]; rfl) rfl ?_
        refine v_aload_n (r := x1) C 1 dL_law_633 rfl ?_
        refine v_aload_n (r := (some b)) C 0 dL_law_634 rfl ?_
        refine v_iload_n C 3 dL_law_635 rfl ?_
        refine v_iconst C dL_law_636 k_iconst_1 ?_
        refine v_iadd C dL_law_637 ?_
        refine v_sld C hX hbl E dL_law_638 (fun v206 _ E => ?_)
        obtain ⟨a207, h208, E⟩ := bnd E
        obtain ⟨hra207, hoa207⟩ := ob_is h208
        obtain ⟨q209, h210, E⟩ := bnd E
        refine v_callV (r := x1) (As := [.int v206]) (rv := (some (.int q209.1))) (st := []) (st1 := [.int q209.1]) (ce1 := (112 + (514 - (k + 1)) * 5)) (sl1 := (3245 + (514 - (k + 1)) * 1807)) C cv_L_77 (c_X11_several (x1 := v206) hoa207 h210) hra207 hoa207 rfl rfl ⟨rfl, rfl, Nat.le_of_ble_eq_true rfl, Nat.le_of_ble_eq_true rfl⟩ ⟨by show _ ≤ 600000; omega, by show _ ≤ 7302250; omega⟩ (Nat.le_of_ble_eq_true rfl) rfl rfl rfl dL_law_639 ?_
        refine v_aload_n (r := x2) C 2 dL_law_642 rfl ?_
        refine v_aload_n (r := (some b)) C 0 dL_law_643 rfl ?_
        refine v_iload_n C 3 dL_law_644 rfl ?_
        refine v_iconst C dL_law_645 k_iconst_1 ?_
        refine v_iadd C dL_law_646 ?_
        refine v_sld C hX hbl E dL_law_647 (fun v211 _ E => ?_)
        obtain ⟨a212, h213, E⟩ := bnd E
        obtain ⟨hra212, hoa212⟩ := ob_is h213
        obtain ⟨q214, h215, E⟩ := bnd E
        refine v_callV (r := x2) (As := [.int v211]) (rv := (some (.int q214.1))) (st := [.int q209.1]) (st1 := [.int q214.1, .int q209.1]) (ce1 := (112 + (514 - (k + 1)) * 5)) (sl1 := (3245 + (514 - (k + 1)) * 1807)) C cv_L_80 (c_X12_several (x1 := v211) hoa212 h215) hra212 hoa212 rfl rfl ⟨rfl, rfl, Nat.le_of_ble_eq_true rfl, Nat.le_of_ble_eq_true rfl⟩ ⟨by show _ ≤ 600000; omega, by show _ ≤ 7302250; omega⟩ (Nat.le_of_ble_eq_true rfl) rfl rfl rfl dL_law_648 ?_
        refine v_icmp_eq C 1170 E dL_law_651 rfl (fun c216 E => ?_) (fun c216 E => ?_)
        · refine v_iinc (v := x3 + 6) C 3 [(3, .int (x3 + 6)), (0, va_rf (some b)), (1, va_rf x1), (2, va_rf x2)] dL_law_1170 rfl (k_inc_6 _) (Nat.le_of_ble_eq_true rfl) (by generalize x2 = rr; cases rr <;> rfl) ?_
          refine v_goto C 18 dL_law_1173 rfl ?_
          refine v_widen (k1 := (112 + (514 - k) * 5)) (k2 := (3245 + (514 - k) * 1807)) (by omega) (by omega) ?_
          exact v_sub [1, 2, 3, 0] [(0, va_rf (some b)), (1, va_rf x1), (2, va_rf x2), (3, .int (x3 + 6))] rfl (ih _ _ _ _ _ _ _ _ E)
        · refine v_iconst C dL_law_654 k_iconst_0 ?_
          obtain rfl := Option.some.inj E
          exact absurd hres (by show ¬ (0 : Int32) = 1; decide)
      have E := ite_f E c217
      by_cases c229 : (v1 &&& 31) = 16
      · have E := ite_t E c229
        refine v_tableIn (off := 623) C 656 dL_law_33 (by rw [c229]; decide) (by rw [c229]; decide) (by rw [c229]; rfl) rfl ?_
        refine v_aload_n (r := x1) C 1 dL_law_656 rfl ?_
        refine v_aload_n (r := (some b)) C 0 dL_law_657 rfl ?_
        refine v_iload_n C 3 dL_law_658 rfl ?_
        refine v_iconst C dL_law_659 k_iconst_1 ?_
        refine v_iadd C dL_law_660 ?_
        refine v_sld C hX hbl E dL_law_661 (fun v218 _ E => ?_)
        obtain ⟨a219, h220, E⟩ := bnd E
        obtain ⟨hra219, hoa219⟩ := ob_is h220
        obtain ⟨q221, h222, E⟩ := bnd E
        refine v_callV (r := x1) (As := [.int v218]) (rv := (some (.int q221.1))) (st := []) (st1 := [.int q221.1]) (ce1 := (112 + (514 - (k + 1)) * 5)) (sl1 := (3245 + (514 - (k + 1)) * 1807)) C cv_L_81 (c_X11_all (x1 := v218) hoa219 h222) hra219 hoa219 rfl rfl ⟨rfl, rfl, Nat.le_of_ble_eq_true rfl, Nat.le_of_ble_eq_true rfl⟩ ⟨by show _ ≤ 600000; omega, by show _ ≤ 7302250; omega⟩ (Nat.le_of_ble_eq_true rfl) rfl rfl rfl dL_law_662 ?_
        refine v_aload_n (r := x2) C 2 dL_law_665 rfl ?_
        refine v_aload_n (r := (some b)) C 0 dL_law_666 rfl ?_
        refine v_iload_n C 3 dL_law_667 rfl ?_
        refine v_iconst C dL_law_668 k_iconst_1 ?_
        refine v_iadd C dL_law_669 ?_
        refine v_sld C hX hbl E dL_law_670 (fun v223 _ E => ?_)
        obtain ⟨a224, h225, E⟩ := bnd E
        obtain ⟨hra224, hoa224⟩ := ob_is h225
        obtain ⟨q226, h227, E⟩ := bnd E
        refine v_callV (r := x2) (As := [.int v223]) (rv := (some (.int q226.1))) (st := [.int q221.1]) (st1 := [.int q226.1, .int q221.1]) (ce1 := (112 + (514 - (k + 1)) * 5)) (sl1 := (3245 + (514 - (k + 1)) * 1807)) C cv_L_84 (c_X12_all (x1 := v223) hoa224 h227) hra224 hoa224 rfl rfl ⟨rfl, rfl, Nat.le_of_ble_eq_true rfl, Nat.le_of_ble_eq_true rfl⟩ ⟨by show _ ≤ 600000; omega, by show _ ≤ 7302250; omega⟩ (Nat.le_of_ble_eq_true rfl) rfl rfl rfl dL_law_671 ?_
        refine v_icmp_eq C 1170 E dL_law_674 rfl (fun c228 E => ?_) (fun c228 E => ?_)
        · refine v_iinc (v := x3 + 6) C 3 [(3, .int (x3 + 6)), (0, va_rf (some b)), (1, va_rf x1), (2, va_rf x2)] dL_law_1170 rfl (k_inc_6 _) (Nat.le_of_ble_eq_true rfl) (by generalize x2 = rr; cases rr <;> rfl) ?_
          refine v_goto C 18 dL_law_1173 rfl ?_
          refine v_widen (k1 := (112 + (514 - k) * 5)) (k2 := (3245 + (514 - k) * 1807)) (by omega) (by omega) ?_
          exact v_sub [1, 2, 3, 0] [(0, va_rf (some b)), (1, va_rf x1), (2, va_rf x2), (3, .int (x3 + 6))] rfl (ih _ _ _ _ _ _ _ _ E)
        · refine v_iconst C dL_law_677 k_iconst_0 ?_
          obtain rfl := Option.some.inj E
          exact absurd hres (by show ¬ (0 : Int32) = 1; decide)
      have E := ite_f E c229
      by_cases c243 : (v1 &&& 31) = 17
      · have E := ite_t E c243
        refine v_tableIn (off := 646) C 679 dL_law_33 (by rw [c243]; decide) (by rw [c243]; decide) (by rw [c243]; rfl) rfl ?_
        refine v_aload_n (r := x1) C 1 dL_law_679 rfl ?_
        refine v_aload_n (r := (some b)) C 0 dL_law_680 rfl ?_
        refine v_iload_n C 3 dL_law_681 rfl ?_
        refine v_iconst C dL_law_682 k_iconst_1 ?_
        refine v_iadd C dL_law_683 ?_
        refine v_sld C hX hbl E dL_law_684 (fun v230 _ E => ?_)
        refine v_aload_n (r := (some b)) C 0 dL_law_685 rfl ?_
        refine v_iload_n C 3 dL_law_686 rfl ?_
        refine v_iconst C dL_law_687 k_iconst_2 ?_
        refine v_iadd C dL_law_688 ?_
        refine v_sld C hX hbl E dL_law_689 (fun v231 _ E => ?_)
        obtain ⟨a232, h233, E⟩ := bnd E
        obtain ⟨hra232, hoa232⟩ := ob_is h233
        obtain ⟨q234, h235, E⟩ := bnd E
        refine v_callV (r := x1) (As := [.int v230, .int v231]) (rv := (some (.long q234.1))) (st := []) (st1 := [.long q234.1]) (ce1 := (112 + (514 - (k + 1)) * 5)) (sl1 := (3245 + (514 - (k + 1)) * 1807)) C cv_L_85 (c_X11_likely (x1 := v230) (x2 := v231) hoa232 h235) hra232 hoa232 rfl rfl ⟨rfl, rfl, Nat.le_of_ble_eq_true rfl, Nat.le_of_ble_eq_true rfl⟩ ⟨by show _ ≤ 600000; omega, by show _ ≤ 7302250; omega⟩ (Nat.le_of_ble_eq_true rfl) rfl rfl rfl dL_law_690 ?_
        refine v_aload_n (r := x2) C 2 dL_law_693 rfl ?_
        refine v_aload_n (r := (some b)) C 0 dL_law_694 rfl ?_
        refine v_iload_n C 3 dL_law_695 rfl ?_
        refine v_iconst C dL_law_696 k_iconst_1 ?_
        refine v_iadd C dL_law_697 ?_
        refine v_sld C hX hbl E dL_law_698 (fun v236 _ E => ?_)
        refine v_aload_n (r := (some b)) C 0 dL_law_699 rfl ?_
        refine v_iload_n C 3 dL_law_700 rfl ?_
        refine v_iconst C dL_law_701 k_iconst_2 ?_
        refine v_iadd C dL_law_702 ?_
        refine v_sld C hX hbl E dL_law_703 (fun v237 _ E => ?_)
        obtain ⟨a238, h239, E⟩ := bnd E
        obtain ⟨hra238, hoa238⟩ := ob_is h239
        obtain ⟨q240, h241, E⟩ := bnd E
        refine v_callV (r := x2) (As := [.int v236, .int v237]) (rv := (some (.long q240.1))) (st := [.long q234.1]) (st1 := [.long q240.1, .long q234.1]) (ce1 := (112 + (514 - (k + 1)) * 5)) (sl1 := (3245 + (514 - (k + 1)) * 1807)) C cv_L_89 (c_X12_likely (x1 := v236) (x2 := v237) hoa238 h241) hra238 hoa238 rfl rfl ⟨rfl, rfl, Nat.le_of_ble_eq_true rfl, Nat.le_of_ble_eq_true rfl⟩ ⟨by show _ ≤ 600000; omega, by show _ ≤ 7302250; omega⟩ (Nat.le_of_ble_eq_true rfl) rfl rfl rfl dL_law_704 ?_
        refine v_lcmp C dL_law_707 ?_
        refine v_if_eq C 1170 E dL_law_708 rfl (fun c242 E => ?_) (fun c242 E => ?_)
        · refine v_iinc (v := x3 + 6) C 3 [(3, .int (x3 + 6)), (0, va_rf (some b)), (1, va_rf x1), (2, va_rf x2)] dL_law_1170 rfl (k_inc_6 _) (Nat.le_of_ble_eq_true rfl) (by generalize x2 = rr; cases rr <;> rfl) ?_
          refine v_goto C 18 dL_law_1173 rfl ?_
          refine v_widen (k1 := (112 + (514 - k) * 5)) (k2 := (3245 + (514 - k) * 1807)) (by omega) (by omega) ?_
          exact v_sub [1, 2, 3, 0] [(0, va_rf (some b)), (1, va_rf x1), (2, va_rf x2), (3, .int (x3 + 6))] rfl (ih _ _ _ _ _ _ _ _ E)
        · refine v_iconst C dL_law_711 k_iconst_0 ?_
          obtain rfl := Option.some.inj E
          exact absurd hres (by show ¬ (0 : Int32) = 1; decide)
      have E := ite_f E c243
      by_cases c261 : (v1 &&& 31) = 18
      · have E := ite_t E c261
        refine v_tableIn (off := 680) C 713 dL_law_33 (by rw [c261]; decide) (by rw [c261]; decide) (by rw [c261]; rfl) rfl ?_
        refine v_aload_n (r := x1) C 1 dL_law_713 rfl ?_
        refine v_aload_n (r := (some b)) C 0 dL_law_714 rfl ?_
        refine v_iload_n C 3 dL_law_715 rfl ?_
        refine v_iconst C dL_law_716 k_iconst_1 ?_
        refine v_iadd C dL_law_717 ?_
        refine v_sld C hX hbl E dL_law_718 (fun v244 _ E => ?_)
        refine v_aload_n (r := (some b)) C 0 dL_law_719 rfl ?_
        refine v_iload_n C 3 dL_law_720 rfl ?_
        refine v_iconst C dL_law_721 k_iconst_2 ?_
        refine v_iadd C dL_law_722 ?_
        refine v_sld C hX hbl E dL_law_723 (fun v245 _ E => ?_)
        refine v_aload_n (r := (some b)) C 0 dL_law_724 rfl ?_
        refine v_iload_n C 3 dL_law_725 rfl ?_
        refine v_iconst C dL_law_726 k_iconst_3 ?_
        refine v_iadd C dL_law_727 ?_
        refine v_sld C hX hbl E dL_law_728 (fun v246 _ E => ?_)
        refine v_aload_n (r := (some b)) C 0 dL_law_729 rfl ?_
        refine v_iload_n C 3 dL_law_730 rfl ?_
        refine v_iconst C dL_law_731 k_iconst_4 ?_
        refine v_iadd C dL_law_732 ?_
        refine v_sld C hX hbl E dL_law_733 (fun v247 _ E => ?_)
        obtain ⟨a248, h249, E⟩ := bnd E
        obtain ⟨hra248, hoa248⟩ := ob_is h249
        obtain ⟨q250, h251, E⟩ := bnd E
        refine v_callV (r := x1) (As := [.int v244, .int v245, .int v246, .int v247]) (rv := (some (.int q250.1))) (st := []) (st1 := [.int q250.1]) (ce1 := (112 + (514 - (k + 1)) * 5)) (sl1 := (3245 + (514 - (k + 1)) * 1807)) C cv_L_90 (c_X11_dig (x1 := v244) (x2 := v245) (x3 := v246) (x4 := v247) hoa248 h251) hra248 hoa248 rfl rfl ⟨rfl, rfl, Nat.le_of_ble_eq_true rfl, Nat.le_of_ble_eq_true rfl⟩ ⟨by show _ ≤ 600000; omega, by show _ ≤ 7302250; omega⟩ (Nat.le_of_ble_eq_true rfl) rfl rfl rfl dL_law_734 ?_
        refine v_aload_n (r := x2) C 2 dL_law_737 rfl ?_
        refine v_aload_n (r := (some b)) C 0 dL_law_738 rfl ?_
        refine v_iload_n C 3 dL_law_739 rfl ?_
        refine v_iconst C dL_law_740 k_iconst_1 ?_
        refine v_iadd C dL_law_741 ?_
        refine v_sld C hX hbl E dL_law_742 (fun v252 _ E => ?_)
        refine v_aload_n (r := (some b)) C 0 dL_law_743 rfl ?_
        refine v_iload_n C 3 dL_law_744 rfl ?_
        refine v_iconst C dL_law_745 k_iconst_2 ?_
        refine v_iadd C dL_law_746 ?_
        refine v_sld C hX hbl E dL_law_747 (fun v253 _ E => ?_)
        refine v_aload_n (r := (some b)) C 0 dL_law_748 rfl ?_
        refine v_iload_n C 3 dL_law_749 rfl ?_
        refine v_iconst C dL_law_750 k_iconst_3 ?_
        refine v_iadd C dL_law_751 ?_
        refine v_sld C hX hbl E dL_law_752 (fun v254 _ E => ?_)
        refine v_aload_n (r := (some b)) C 0 dL_law_753 rfl ?_
        refine v_iload_n C 3 dL_law_754 rfl ?_
        refine v_iconst C dL_law_755 k_iconst_4 ?_
        refine v_iadd C dL_law_756 ?_
        refine v_sld C hX hbl E dL_law_757 (fun v255 _ E => ?_)
        obtain ⟨a256, h257, E⟩ := bnd E
        obtain ⟨hra256, hoa256⟩ := ob_is h257
        obtain ⟨q258, h259, E⟩ := bnd E
        refine v_callV (r := x2) (As := [.int v252, .int v253, .int v254, .int v255]) (rv := (some (.int q258.1))) (st := [.int q250.1]) (st1 := [.int q258.1, .int q250.1]) (ce1 := (112 + (514 - (k + 1)) * 5)) (sl1 := (3245 + (514 - (k + 1)) * 1807)) C cv_L_94 (c_X12_dig (x1 := v252) (x2 := v253) (x3 := v254) (x4 := v255) hoa256 h259) hra256 hoa256 rfl rfl ⟨rfl, rfl, Nat.le_of_ble_eq_true rfl, Nat.le_of_ble_eq_true rfl⟩ ⟨by show _ ≤ 600000; omega, by show _ ≤ 7302250; omega⟩ (Nat.le_of_ble_eq_true rfl) rfl rfl rfl dL_law_758 ?_
        refine v_icmp_eq C 1170 E dL_law_761 rfl (fun c260 E => ?_) (fun c260 E => ?_)
        · refine v_iinc (v := x3 + 6) C 3 [(3, .int (x3 + 6)), (0, va_rf (some b)), (1, va_rf x1), (2, va_rf x2)] dL_law_1170 rfl (k_inc_6 _) (Nat.le_of_ble_eq_true rfl) (by generalize x2 = rr; cases rr <;> rfl) ?_
          refine v_goto C 18 dL_law_1173 rfl ?_
          refine v_widen (k1 := (112 + (514 - k) * 5)) (k2 := (3245 + (514 - k) * 1807)) (by omega) (by omega) ?_
          exact v_sub [1, 2, 3, 0] [(0, va_rf (some b)), (1, va_rf x1), (2, va_rf x2), (3, .int (x3 + 6))] rfl (ih _ _ _ _ _ _ _ _ E)
        · refine v_iconst C dL_law_764 k_iconst_0 ?_
          obtain rfl := Option.some.inj E
          exact absurd hres (by show ¬ (0 : Int32) = 1; decide)
      have E := ite_f E c261
      by_cases c277 : (v1 &&& 31) = 19
      · have E := ite_t E c277
        refine v_tableIn (off := 733) C 766 dL_law_33 (by rw [c277]; decide) (by rw [c277]; decide) (by rw [c277]; rfl) rfl ?_
        refine v_aload_n (r := x1) C 1 dL_law_766 rfl ?_
        refine v_aload_n (r := (some b)) C 0 dL_law_767 rfl ?_
        refine v_iload_n C 3 dL_law_768 rfl ?_
        refine v_iconst C dL_law_769 k_iconst_1 ?_
        refine v_iadd C dL_law_770 ?_
        refine v_sld C hX hbl E dL_law_771 (fun v262 _ E => ?_)
        refine v_aload_n (r := (some b)) C 0 dL_law_772 rfl ?_
        refine v_iload_n C 3 dL_law_773 rfl ?_
        refine v_iconst C dL_law_774 k_iconst_2 ?_
        refine v_iadd C dL_law_775 ?_
        refine v_sld C hX hbl E dL_law_776 (fun v263 _ E => ?_)
        refine v_aload_n (r := (some b)) C 0 dL_law_777 rfl ?_
        refine v_iload_n C 3 dL_law_778 rfl ?_
        refine v_iconst C dL_law_779 k_iconst_3 ?_
        refine v_iadd C dL_law_780 ?_
        refine v_sld C hX hbl E dL_law_781 (fun v264 _ E => ?_)
        obtain ⟨a265, h266, E⟩ := bnd E
        obtain ⟨hra265, hoa265⟩ := ob_is h266
        obtain ⟨q267, h268, E⟩ := bnd E
        refine v_callV (r := x1) (As := [.int v262, .int v263, .int v264]) (rv := (some (.int q267.1))) (st := []) (st1 := [.int q267.1]) (ce1 := (112 + (514 - (k + 1)) * 5)) (sl1 := (3245 + (514 - (k + 1)) * 1807)) C cv_L_95 (c_X11_judge (x1 := v262) (x2 := v263) (x3 := v264) hoa265 h268) hra265 hoa265 rfl rfl ⟨rfl, rfl, Nat.le_of_ble_eq_true rfl, Nat.le_of_ble_eq_true rfl⟩ ⟨by show _ ≤ 600000; omega, by show _ ≤ 7302250; omega⟩ (Nat.le_of_ble_eq_true rfl) rfl rfl rfl dL_law_782 ?_
        refine v_aload_n (r := x2) C 2 dL_law_785 rfl ?_
        refine v_aload_n (r := (some b)) C 0 dL_law_786 rfl ?_
        refine v_iload_n C 3 dL_law_787 rfl ?_
        refine v_iconst C dL_law_788 k_iconst_1 ?_
        refine v_iadd C dL_law_789 ?_
        refine v_sld C hX hbl E dL_law_790 (fun v269 _ E => ?_)
        refine v_aload_n (r := (some b)) C 0 dL_law_791 rfl ?_
        refine v_iload_n C 3 dL_law_792 rfl ?_
        refine v_iconst C dL_law_793 k_iconst_2 ?_
        refine v_iadd C dL_law_794 ?_
        refine v_sld C hX hbl E dL_law_795 (fun v270 _ E => ?_)
        refine v_aload_n (r := (some b)) C 0 dL_law_796 rfl ?_
        refine v_iload_n C 3 dL_law_797 rfl ?_
        refine v_iconst C dL_law_798 k_iconst_3 ?_
        refine v_iadd C dL_law_799 ?_
        refine v_sld C hX hbl E dL_law_800 (fun v271 _ E => ?_)
        obtain ⟨a272, h273, E⟩ := bnd E
        obtain ⟨hra272, hoa272⟩ := ob_is h273
        obtain ⟨q274, h275, E⟩ := bnd E
        refine v_callV (r := x2) (As := [.int v269, .int v270, .int v271]) (rv := (some (.int q274.1))) (st := [.int q267.1]) (st1 := [.int q274.1, .int q267.1]) (ce1 := (112 + (514 - (k + 1)) * 5)) (sl1 := (3245 + (514 - (k + 1)) * 1807)) C cv_L_98 (c_X12_judge (x1 := v269) (x2 := v270) (x3 := v271) hoa272 h275) hra272 hoa272 rfl rfl ⟨rfl, rfl, Nat.le_of_ble_eq_true rfl, Nat.le_of_ble_eq_true rfl⟩ ⟨by show _ ≤ 600000; omega, by show _ ≤ 7302250; omega⟩ (Nat.le_of_ble_eq_true rfl) rfl rfl rfl dL_law_801 ?_
        refine v_icmp_eq C 1170 E dL_law_804 rfl (fun c276 E => ?_) (fun c276 E => ?_)
        · refine v_iinc (v := x3 + 6) C 3 [(3, .int (x3 + 6)), (0, va_rf (some b)), (1, va_rf x1), (2, va_rf x2)] dL_law_1170 rfl (k_inc_6 _) (Nat.le_of_ble_eq_true rfl) (by generalize x2 = rr; cases rr <;> rfl) ?_
          refine v_goto C 18 dL_law_1173 rfl ?_
          refine v_widen (k1 := (112 + (514 - k) * 5)) (k2 := (3245 + (514 - k) * 1807)) (by omega) (by omega) ?_
          exact v_sub [1, 2, 3, 0] [(0, va_rf (some b)), (1, va_rf x1), (2, va_rf x2), (3, .int (x3 + 6))] rfl (ih _ _ _ _ _ _ _ _ E)
        · refine v_iconst C dL_law_807 k_iconst_0 ?_
          obtain rfl := Option.some.inj E
          exact absurd hres (by show ¬ (0 : Int32) = 1; decide)
      have E := ite_f E c277
      by_cases c287 : (v1 &&& 31) = 20
      · have E := ite_t E c287
        refine v_tableIn (off := 776) C 809 dL_law_33 (by rw [c287]; decide) (by rw [c287]; decide) (by rw [c287]; rfl) rfl ?_
        refine v_aload_n (r := x1) C 1 dL_law_809 rfl ?_
        obtain ⟨a278, h279, E⟩ := bnd E
        obtain ⟨hra278, hoa278⟩ := ob_is h279
        obtain ⟨q280, h281, E⟩ := bnd E
        refine v_callV (r := x1) (As := []) (rv := (some (.int q280.1))) (st := []) (st1 := [.int q280.1]) (ce1 := (112 + (514 - (k + 1)) * 5)) (sl1 := (3245 + (514 - (k + 1)) * 1807)) C cv_L_99 (c_X11_image  hoa278 h281) hra278 hoa278 rfl rfl ⟨rfl, rfl, Nat.le_of_ble_eq_true rfl, Nat.le_of_ble_eq_true rfl⟩ ⟨by show _ ≤ 600000; omega, by show _ ≤ 7302250; omega⟩ (Nat.le_of_ble_eq_true rfl) rfl rfl rfl dL_law_810 ?_
        refine v_aload_n (r := x2) C 2 dL_law_813 rfl ?_
        obtain ⟨a282, h283, E⟩ := bnd E
        obtain ⟨hra282, hoa282⟩ := ob_is h283
        obtain ⟨q284, h285, E⟩ := bnd E
        refine v_callV (r := x2) (As := []) (rv := (some (.int q284.1))) (st := [.int q280.1]) (st1 := [.int q284.1, .int q280.1]) (ce1 := (112 + (514 - (k + 1)) * 5)) (sl1 := (3245 + (514 - (k + 1)) * 1807)) C cv_L_102 (c_X12_image  hoa282 h285) hra282 hoa282 rfl rfl ⟨rfl, rfl, Nat.le_of_ble_eq_true rfl, Nat.le_of_ble_eq_true rfl⟩ ⟨by show _ ≤ 600000; omega, by show _ ≤ 7302250; omega⟩ (Nat.le_of_ble_eq_true rfl) rfl rfl rfl dL_law_814 ?_
        refine v_icmp_eq C 1170 E dL_law_817 rfl (fun c286 E => ?_) (fun c286 E => ?_)
        · refine v_iinc (v := x3 + 6) C 3 [(3, .int (x3 + 6)), (0, va_rf (some b)), (1, va_rf x1), (2, va_rf x2)] dL_law_1170 rfl (k_inc_6 _) (Nat.le_of_ble_eq_true rfl) (by generalize x2 = rr; cases rr <;> rfl) ?_
          refine v_goto C 18 dL_law_1173 rfl ?_
          refine v_widen (k1 := (112 + (514 - k) * 5)) (k2 := (3245 + (514 - k) * 1807)) (by omega) (by omega) ?_
          exact v_sub [1, 2, 3, 0] [(0, va_rf (some b)), (1, va_rf x1), (2, va_rf x2), (3, .int (x3 + 6))] rfl (ih _ _ _ _ _ _ _ _ E)
        · refine v_iconst C dL_law_820 k_iconst_0 ?_
          obtain rfl := Option.some.inj E
          exact absurd hres (by show ¬ (0 : Int32) = 1; decide)
      have E := ite_f E c287
      by_cases c297 : (v1 &&& 31) = 21
      · have E := ite_t E c297
        refine v_tableIn (off := 789) C 822 dL_law_33 (by rw [c297]; decide) (by rw [c297]; decide) (by rw [c297]; rfl) rfl ?_
        refine v_aload_n (r := x1) C 1 dL_law_822 rfl ?_
        obtain ⟨a288, h289, E⟩ := bnd E
        obtain ⟨hra288, hoa288⟩ := ob_is h289
        obtain ⟨q290, h291, E⟩ := bnd E
        refine v_callV (r := x1) (As := []) (rv := (some (.int q290.1))) (st := []) (st1 := [.int q290.1]) (ce1 := (112 + (514 - (k + 1)) * 5)) (sl1 := (3245 + (514 - (k + 1)) * 1807)) C cv_L_103 (c_X11_undo  hoa288 h291) hra288 hoa288 rfl rfl ⟨rfl, rfl, Nat.le_of_ble_eq_true rfl, Nat.le_of_ble_eq_true rfl⟩ ⟨by show _ ≤ 600000; omega, by show _ ≤ 7302250; omega⟩ (Nat.le_of_ble_eq_true rfl) rfl rfl rfl dL_law_823 ?_
        refine v_aload_n (r := x2) C 2 dL_law_826 rfl ?_
        obtain ⟨a292, h293, E⟩ := bnd E
        obtain ⟨hra292, hoa292⟩ := ob_is h293
        obtain ⟨q294, h295, E⟩ := bnd E
        refine v_callV (r := x2) (As := []) (rv := (some (.int q294.1))) (st := [.int q290.1]) (st1 := [.int q294.1, .int q290.1]) (ce1 := (112 + (514 - (k + 1)) * 5)) (sl1 := (3245 + (514 - (k + 1)) * 1807)) C cv_L_106 (c_X12_undo  hoa292 h295) hra292 hoa292 rfl rfl ⟨rfl, rfl, Nat.le_of_ble_eq_true rfl, Nat.le_of_ble_eq_true rfl⟩ ⟨by show _ ≤ 600000; omega, by show _ ≤ 7302250; omega⟩ (Nat.le_of_ble_eq_true rfl) rfl rfl rfl dL_law_827 ?_
        refine v_icmp_eq C 1170 E dL_law_830 rfl (fun c296 E => ?_) (fun c296 E => ?_)
        · refine v_iinc (v := x3 + 6) C 3 [(3, .int (x3 + 6)), (0, va_rf (some b)), (1, va_rf x1), (2, va_rf x2)] dL_law_1170 rfl (k_inc_6 _) (Nat.le_of_ble_eq_true rfl) (by generalize x2 = rr; cases rr <;> rfl) ?_
          refine v_goto C 18 dL_law_1173 rfl ?_
          refine v_widen (k1 := (112 + (514 - k) * 5)) (k2 := (3245 + (514 - k) * 1807)) (by omega) (by omega) ?_
          exact v_sub [1, 2, 3, 0] [(0, va_rf (some b)), (1, va_rf x1), (2, va_rf x2), (3, .int (x3 + 6))] rfl (ih _ _ _ _ _ _ _ _ E)
        · refine v_iconst C dL_law_833 k_iconst_0 ?_
          obtain rfl := Option.some.inj E
          exact absurd hres (by show ¬ (0 : Int32) = 1; decide)
      have E := ite_f E c297
      by_cases c313 : (v1 &&& 31) = 22
      · have E := ite_t E c313
        refine v_tableIn (off := 802) C 835 dL_law_33 (by rw [c313]; decide) (by rw [c313]; decide) (by rw [c313]; rfl) rfl ?_
        refine v_aload_n (r := x1) C 1 dL_law_835 rfl ?_
        refine v_aload_n (r := (some b)) C 0 dL_law_836 rfl ?_
        refine v_iload_n C 3 dL_law_837 rfl ?_
        refine v_iconst C dL_law_838 k_iconst_1 ?_
        refine v_iadd C dL_law_839 ?_
        refine v_sld C hX hbl E dL_law_840 (fun v298 _ E => ?_)
        refine v_aload_n (r := (some b)) C 0 dL_law_841 rfl ?_
        refine v_iload_n C 3 dL_law_842 rfl ?_
        refine v_iconst C dL_law_843 k_iconst_2 ?_
        refine v_iadd C dL_law_844 ?_
        refine v_sld C hX hbl E dL_law_845 (fun v299 _ E => ?_)
        refine v_aload_n (r := (some b)) C 0 dL_law_846 rfl ?_
        refine v_iload_n C 3 dL_law_847 rfl ?_
        refine v_iconst C dL_law_848 k_iconst_3 ?_
        refine v_iadd C dL_law_849 ?_
        refine v_sld C hX hbl E dL_law_850 (fun v300 _ E => ?_)
        obtain ⟨a301, h302, E⟩ := bnd E
        obtain ⟨hra301, hoa301⟩ := ob_is h302
        obtain ⟨q303, h304, E⟩ := bnd E
        refine v_callV (r := x1) (As := [.int v298, .int v299, .int v300]) (rv := (some (.int q303.1))) (st := []) (st1 := [.int q303.1]) (ce1 := (112 + (514 - (k + 1)) * 5)) (sl1 := (3245 + (514 - (k + 1)) * 1807)) C cv_L_107 (c_X11_act (x1 := v298) (x2 := v299) (x3 := v300) hoa301 h304) hra301 hoa301 rfl rfl ⟨rfl, rfl, Nat.le_of_ble_eq_true rfl, Nat.le_of_ble_eq_true rfl⟩ ⟨by show _ ≤ 600000; omega, by show _ ≤ 7302250; omega⟩ (Nat.le_of_ble_eq_true rfl) rfl rfl rfl dL_law_851 ?_
        refine v_aload_n (r := x2) C 2 dL_law_854 rfl ?_
        refine v_aload_n (r := (some b)) C 0 dL_law_855 rfl ?_
        refine v_iload_n C 3 dL_law_856 rfl ?_
        refine v_iconst C dL_law_857 k_iconst_1 ?_
        refine v_iadd C dL_law_858 ?_
        refine v_sld C hX hbl E dL_law_859 (fun v305 _ E => ?_)
        refine v_aload_n (r := (some b)) C 0 dL_law_860 rfl ?_
        refine v_iload_n C 3 dL_law_861 rfl ?_
        refine v_iconst C dL_law_862 k_iconst_2 ?_
        refine v_iadd C dL_law_863 ?_
        refine v_sld C hX hbl E dL_law_864 (fun v306 _ E => ?_)
        refine v_aload_n (r := (some b)) C 0 dL_law_865 rfl ?_
        refine v_iload_n C 3 dL_law_866 rfl ?_
        refine v_iconst C dL_law_867 k_iconst_3 ?_
        refine v_iadd C dL_law_868 ?_
        refine v_sld C hX hbl E dL_law_869 (fun v307 _ E => ?_)
        obtain ⟨a308, h309, E⟩ := bnd E
        obtain ⟨hra308, hoa308⟩ := ob_is h309
        obtain ⟨q310, h311, E⟩ := bnd E
        refine v_callV (r := x2) (As := [.int v305, .int v306, .int v307]) (rv := (some (.int q310.1))) (st := [.int q303.1]) (st1 := [.int q310.1, .int q303.1]) (ce1 := (112 + (514 - (k + 1)) * 5)) (sl1 := (3245 + (514 - (k + 1)) * 1807)) C cv_L_110 (c_X12_act (x1 := v305) (x2 := v306) (x3 := v307) hoa308 h311) hra308 hoa308 rfl rfl ⟨rfl, rfl, Nat.le_of_ble_eq_true rfl, Nat.le_of_ble_eq_true rfl⟩ ⟨by show _ ≤ 600000; omega, by show _ ≤ 7302250; omega⟩ (Nat.le_of_ble_eq_true rfl) rfl rfl rfl dL_law_870 ?_
        refine v_icmp_eq C 1170 E dL_law_873 rfl (fun c312 E => ?_) (fun c312 E => ?_)
        · refine v_iinc (v := x3 + 6) C 3 [(3, .int (x3 + 6)), (0, va_rf (some b)), (1, va_rf x1), (2, va_rf x2)] dL_law_1170 rfl (k_inc_6 _) (Nat.le_of_ble_eq_true rfl) (by generalize x2 = rr; cases rr <;> rfl) ?_
          refine v_goto C 18 dL_law_1173 rfl ?_
          refine v_widen (k1 := (112 + (514 - k) * 5)) (k2 := (3245 + (514 - k) * 1807)) (by omega) (by omega) ?_
          exact v_sub [1, 2, 3, 0] [(0, va_rf (some b)), (1, va_rf x1), (2, va_rf x2), (3, .int (x3 + 6))] rfl (ih _ _ _ _ _ _ _ _ E)
        · refine v_iconst C dL_law_876 k_iconst_0 ?_
          obtain rfl := Option.some.inj E
          exact absurd hres (by show ¬ (0 : Int32) = 1; decide)
      have E := ite_f E c313
      by_cases c325 : (v1 &&& 31) = 23
      · have E := ite_t E c325
        refine v_tableIn (off := 845) C 878 dL_law_33 (by rw [c325]; decide) (by rw [c325]; decide) (by rw [c325]; rfl) rfl ?_
        refine v_aload_n (r := x1) C 1 dL_law_878 rfl ?_
        refine v_aload_n (r := (some b)) C 0 dL_law_879 rfl ?_
        refine v_iload_n C 3 dL_law_880 rfl ?_
        refine v_iconst C dL_law_881 k_iconst_1 ?_
        refine v_iadd C dL_law_882 ?_
        refine v_sld C hX hbl E dL_law_883 (fun v314 _ E => ?_)
        obtain ⟨a315, h316, E⟩ := bnd E
        obtain ⟨hra315, hoa315⟩ := ob_is h316
        obtain ⟨q317, h318, E⟩ := bnd E
        refine v_callV (r := x1) (As := [.int v314]) (rv := (some (.int q317))) (st := []) (st1 := [.int q317]) (ce1 := (112 + (514 - (k + 1)) * 5)) (sl1 := (3245 + (514 - (k + 1)) * 1807)) C cv_L_111 (c_X11_trace (x1 := v314) hoa315 h318) hra315 hoa315 rfl rfl ⟨rfl, rfl, Nat.le_of_ble_eq_true rfl, Nat.le_of_ble_eq_true rfl⟩ ⟨by show _ ≤ 600000; omega, by show _ ≤ 7302250; omega⟩ (Nat.le_of_ble_eq_true rfl) rfl rfl rfl dL_law_884 ?_
        refine v_aload_n (r := x2) C 2 dL_law_887 rfl ?_
        refine v_aload_n (r := (some b)) C 0 dL_law_888 rfl ?_
        refine v_iload_n C 3 dL_law_889 rfl ?_
        refine v_iconst C dL_law_890 k_iconst_1 ?_
        refine v_iadd C dL_law_891 ?_
        refine v_sld C hX hbl E dL_law_892 (fun v319 _ E => ?_)
        obtain ⟨a320, h321, E⟩ := bnd E
        obtain ⟨hra320, hoa320⟩ := ob_is h321
        obtain ⟨q322, h323, E⟩ := bnd E
        refine v_callV (r := x2) (As := [.int v319]) (rv := (some (.int q322))) (st := [.int q317]) (st1 := [.int q322, .int q317]) (ce1 := (112 + (514 - (k + 1)) * 5)) (sl1 := (3245 + (514 - (k + 1)) * 1807)) C cv_L_114 (c_X12_trace (x1 := v319) hoa320 h323) hra320 hoa320 rfl rfl ⟨rfl, rfl, Nat.le_of_ble_eq_true rfl, Nat.le_of_ble_eq_true rfl⟩ ⟨by show _ ≤ 600000; omega, by show _ ≤ 7302250; omega⟩ (Nat.le_of_ble_eq_true rfl) rfl rfl rfl dL_law_893 ?_
        refine v_icmp_eq C 1170 E dL_law_896 rfl (fun c324 E => ?_) (fun c324 E => ?_)
        · refine v_iinc (v := x3 + 6) C 3 [(3, .int (x3 + 6)), (0, va_rf (some b)), (1, va_rf x1), (2, va_rf x2)] dL_law_1170 rfl (k_inc_6 _) (Nat.le_of_ble_eq_true rfl) (by generalize x2 = rr; cases rr <;> rfl) ?_
          refine v_goto C 18 dL_law_1173 rfl ?_
          refine v_widen (k1 := (112 + (514 - k) * 5)) (k2 := (3245 + (514 - k) * 1807)) (by omega) (by omega) ?_
          exact v_sub [1, 2, 3, 0] [(0, va_rf (some b)), (1, va_rf x1), (2, va_rf x2), (3, .int (x3 + 6))] rfl (ih _ _ _ _ _ _ _ _ E)
        · refine v_iconst C dL_law_899 k_iconst_0 ?_
          obtain rfl := Option.some.inj E
          exact absurd hres (by show ¬ (0 : Int32) = 1; decide)
      have E := ite_f E c325
      by_cases c339 : (v1 &&& 31) = 24
      · have E := ite_t E c339
        refine v_tableIn (off := 868) C 901 dL_law_33 (by rw [c339]; decide) (by rw [c339]; decide) (by rw [c339]; rfl) rfl ?_
        refine v_aload_n (r := x1) C 1 dL_law_901 rfl ?_
        refine v_aload_n (r := (some b)) C 0 dL_law_902 rfl ?_
        refine v_iload_n C 3 dL_law_903 rfl ?_
        refine v_iconst C dL_law_904 k_iconst_1 ?_
        refine v_iadd C dL_law_905 ?_
        refine v_sld C hX hbl E dL_law_906 (fun v326 _ E => ?_)
        refine v_aload_n (r := (some b)) C 0 dL_law_907 rfl ?_
        refine v_iload_n C 3 dL_law_908 rfl ?_
        refine v_iconst C dL_law_909 k_iconst_2 ?_
        refine v_iadd C dL_law_910 ?_
        refine v_sld C hX hbl E dL_law_911 (fun v327 _ E => ?_)
        obtain ⟨a328, h329, E⟩ := bnd E
        obtain ⟨hra328, hoa328⟩ := ob_is h329
        obtain ⟨q330, h331, E⟩ := bnd E
        refine v_callV (r := x1) (As := [.int v326, .int v327]) (rv := (some (.int q330))) (st := []) (st1 := [.int q330]) (ce1 := (112 + (514 - (k + 1)) * 5)) (sl1 := (3245 + (514 - (k + 1)) * 1807)) C cv_L_115 (c_X11_taken (x1 := v326) (x2 := v327) hoa328 h331) hra328 hoa328 rfl rfl ⟨rfl, rfl, Nat.le_of_ble_eq_true rfl, Nat.le_of_ble_eq_true rfl⟩ ⟨by show _ ≤ 600000; omega, by show _ ≤ 7302250; omega⟩ (Nat.le_of_ble_eq_true rfl) rfl rfl rfl dL_law_912 ?_
        refine v_aload_n (r := x2) C 2 dL_law_915 rfl ?_
        refine v_aload_n (r := (some b)) C 0 dL_law_916 rfl ?_
        refine v_iload_n C 3 dL_law_917 rfl ?_
        refine v_iconst C dL_law_918 k_iconst_1 ?_
        refine v_iadd C dL_law_919 ?_
        refine v_sld C hX hbl E dL_law_920 (fun v332 _ E => ?_)
        refine v_aload_n (r := (some b)) C 0 dL_law_921 rfl ?_
        refine v_iload_n C 3 dL_law_922 rfl ?_
        refine v_iconst C dL_law_923 k_iconst_2 ?_
        refine v_iadd C dL_law_924 ?_
        refine v_sld C hX hbl E dL_law_925 (fun v333 _ E => ?_)
        obtain ⟨a334, h335, E⟩ := bnd E
        obtain ⟨hra334, hoa334⟩ := ob_is h335
        obtain ⟨q336, h337, E⟩ := bnd E
        refine v_callV (r := x2) (As := [.int v332, .int v333]) (rv := (some (.int q336))) (st := [.int q330]) (st1 := [.int q336, .int q330]) (ce1 := (112 + (514 - (k + 1)) * 5)) (sl1 := (3245 + (514 - (k + 1)) * 1807)) C cv_L_118 (c_X12_taken (x1 := v332) (x2 := v333) hoa334 h337) hra334 hoa334 rfl rfl ⟨rfl, rfl, Nat.le_of_ble_eq_true rfl, Nat.le_of_ble_eq_true rfl⟩ ⟨by show _ ≤ 600000; omega, by show _ ≤ 7302250; omega⟩ (Nat.le_of_ble_eq_true rfl) rfl rfl rfl dL_law_926 ?_
        refine v_icmp_eq C 1170 E dL_law_929 rfl (fun c338 E => ?_) (fun c338 E => ?_)
        · refine v_iinc (v := x3 + 6) C 3 [(3, .int (x3 + 6)), (0, va_rf (some b)), (1, va_rf x1), (2, va_rf x2)] dL_law_1170 rfl (k_inc_6 _) (Nat.le_of_ble_eq_true rfl) (by generalize x2 = rr; cases rr <;> rfl) ?_
          refine v_goto C 18 dL_law_1173 rfl ?_
          refine v_widen (k1 := (112 + (514 - k) * 5)) (k2 := (3245 + (514 - k) * 1807)) (by omega) (by omega) ?_
          exact v_sub [1, 2, 3, 0] [(0, va_rf (some b)), (1, va_rf x1), (2, va_rf x2), (3, .int (x3 + 6))] rfl (ih _ _ _ _ _ _ _ _ E)
        · refine v_iconst C dL_law_932 k_iconst_0 ?_
          obtain rfl := Option.some.inj E
          exact absurd hres (by show ¬ (0 : Int32) = 1; decide)
      have E := ite_f E c339
      by_cases c351 : (v1 &&& 31) = 25
      · have E := ite_t E c351
        refine v_tableIn (off := 901) C 934 dL_law_33 (by rw [c351]; decide) (by rw [c351]; decide) (by rw [c351]; rfl) rfl ?_
        refine v_aload_n (r := x1) C 1 dL_law_934 rfl ?_
        refine v_aload_n (r := (some b)) C 0 dL_law_935 rfl ?_
        refine v_iload_n C 3 dL_law_936 rfl ?_
        refine v_iconst C dL_law_937 k_iconst_1 ?_
        refine v_iadd C dL_law_938 ?_
        refine v_sld C hX hbl E dL_law_939 (fun v340 _ E => ?_)
        obtain ⟨a341, h342, E⟩ := bnd E
        obtain ⟨hra341, hoa341⟩ := ob_is h342
        obtain ⟨q343, h344, E⟩ := bnd E
        refine v_callV (r := x1) (As := [.int v340]) (rv := (some (.int q343))) (st := []) (st1 := [.int q343]) (ce1 := (112 + (514 - (k + 1)) * 5)) (sl1 := (3245 + (514 - (k + 1)) * 1807)) C cv_L_119 (c_X11_count (x1 := v340) hoa341 h344) hra341 hoa341 rfl rfl ⟨rfl, rfl, Nat.le_of_ble_eq_true rfl, Nat.le_of_ble_eq_true rfl⟩ ⟨by show _ ≤ 600000; omega, by show _ ≤ 7302250; omega⟩ (Nat.le_of_ble_eq_true rfl) rfl rfl rfl dL_law_940 ?_
        refine v_aload_n (r := x2) C 2 dL_law_943 rfl ?_
        refine v_aload_n (r := (some b)) C 0 dL_law_944 rfl ?_
        refine v_iload_n C 3 dL_law_945 rfl ?_
        refine v_iconst C dL_law_946 k_iconst_1 ?_
        refine v_iadd C dL_law_947 ?_
        refine v_sld C hX hbl E dL_law_948 (fun v345 _ E => ?_)
        obtain ⟨a346, h347, E⟩ := bnd E
        obtain ⟨hra346, hoa346⟩ := ob_is h347
        obtain ⟨q348, h349, E⟩ := bnd E
        refine v_callV (r := x2) (As := [.int v345]) (rv := (some (.int q348))) (st := [.int q343]) (st1 := [.int q348, .int q343]) (ce1 := (112 + (514 - (k + 1)) * 5)) (sl1 := (3245 + (514 - (k + 1)) * 1807)) C cv_L_122 (c_X12_count (x1 := v345) hoa346 h349) hra346 hoa346 rfl rfl ⟨rfl, rfl, Nat.le_of_ble_eq_true rfl, Nat.le_of_ble_eq_true rfl⟩ ⟨by show _ ≤ 600000; omega, by show _ ≤ 7302250; omega⟩ (Nat.le_of_ble_eq_true rfl) rfl rfl rfl dL_law_949 ?_
        refine v_icmp_eq C 1170 E dL_law_952 rfl (fun c350 E => ?_) (fun c350 E => ?_)
        · refine v_iinc (v := x3 + 6) C 3 [(3, .int (x3 + 6)), (0, va_rf (some b)), (1, va_rf x1), (2, va_rf x2)] dL_law_1170 rfl (k_inc_6 _) (Nat.le_of_ble_eq_true rfl) (by generalize x2 = rr; cases rr <;> rfl) ?_
          refine v_goto C 18 dL_law_1173 rfl ?_
          refine v_widen (k1 := (112 + (514 - k) * 5)) (k2 := (3245 + (514 - k) * 1807)) (by omega) (by omega) ?_
          exact v_sub [1, 2, 3, 0] [(0, va_rf (some b)), (1, va_rf x1), (2, va_rf x2), (3, .int (x3 + 6))] rfl (ih _ _ _ _ _ _ _ _ E)
        · refine v_iconst C dL_law_955 k_iconst_0 ?_
          obtain rfl := Option.some.inj E
          exact absurd hres (by show ¬ (0 : Int32) = 1; decide)
      have E := ite_f E c351
      by_cases c367 : (v1 &&& 31) = 26
      · have E := ite_t E c367
        refine v_tableIn (off := 924) C 957 dL_law_33 (by rw [c367]; decide) (by rw [c367]; decide) (by rw [c367]; rfl) rfl ?_
        refine v_aload_n (r := x1) C 1 dL_law_957 rfl ?_
        refine v_aload_n (r := (some b)) C 0 dL_law_958 rfl ?_
        refine v_iload_n C 3 dL_law_959 rfl ?_
        refine v_iconst C dL_law_960 k_iconst_1 ?_
        refine v_iadd C dL_law_961 ?_
        refine v_sld C hX hbl E dL_law_962 (fun v352 _ E => ?_)
        refine v_aload_n (r := (some b)) C 0 dL_law_963 rfl ?_
        refine v_iload_n C 3 dL_law_964 rfl ?_
        refine v_iconst C dL_law_965 k_iconst_2 ?_
        refine v_iadd C dL_law_966 ?_
        refine v_sld C hX hbl E dL_law_967 (fun v353 _ E => ?_)
        refine v_aload_n (r := (some b)) C 0 dL_law_968 rfl ?_
        refine v_iload_n C 3 dL_law_969 rfl ?_
        refine v_iconst C dL_law_970 k_iconst_3 ?_
        refine v_iadd C dL_law_971 ?_
        refine v_sld C hX hbl E dL_law_972 (fun v354 _ E => ?_)
        obtain ⟨a355, h356, E⟩ := bnd E
        obtain ⟨hra355, hoa355⟩ := ob_is h356
        obtain ⟨q357, h358, E⟩ := bnd E
        refine v_callV (r := x1) (As := [.int v352, .int v353, .int v354]) (rv := (some (.int q357.1))) (st := []) (st1 := [.int q357.1]) (ce1 := (112 + (514 - (k + 1)) * 5)) (sl1 := (3245 + (514 - (k + 1)) * 1807)) C cv_L_123 (c_X11_tape (x1 := v352) (x2 := v353) (x3 := v354) hoa355 h358) hra355 hoa355 rfl rfl ⟨rfl, rfl, Nat.le_of_ble_eq_true rfl, Nat.le_of_ble_eq_true rfl⟩ ⟨by show _ ≤ 600000; omega, by show _ ≤ 7302250; omega⟩ (Nat.le_of_ble_eq_true rfl) rfl rfl rfl dL_law_973 ?_
        refine v_aload_n (r := x2) C 2 dL_law_976 rfl ?_
        refine v_aload_n (r := (some b)) C 0 dL_law_977 rfl ?_
        refine v_iload_n C 3 dL_law_978 rfl ?_
        refine v_iconst C dL_law_979 k_iconst_1 ?_
        refine v_iadd C dL_law_980 ?_
        refine v_sld C hX hbl E dL_law_981 (fun v359 _ E => ?_)
        refine v_aload_n (r := (some b)) C 0 dL_law_982 rfl ?_
        refine v_iload_n C 3 dL_law_983 rfl ?_
        refine v_iconst C dL_law_984 k_iconst_2 ?_
        refine v_iadd C dL_law_985 ?_
        refine v_sld C hX hbl E dL_law_986 (fun v360 _ E => ?_)
        refine v_aload_n (r := (some b)) C 0 dL_law_987 rfl ?_
        refine v_iload_n C 3 dL_law_988 rfl ?_
        refine v_iconst C dL_law_989 k_iconst_3 ?_
        refine v_iadd C dL_law_990 ?_
        refine v_sld C hX hbl E dL_law_991 (fun v361 _ E => ?_)
        obtain ⟨a362, h363, E⟩ := bnd E
        obtain ⟨hra362, hoa362⟩ := ob_is h363
        obtain ⟨q364, h365, E⟩ := bnd E
        refine v_callV (r := x2) (As := [.int v359, .int v360, .int v361]) (rv := (some (.int q364.1))) (st := [.int q357.1]) (st1 := [.int q364.1, .int q357.1]) (ce1 := (112 + (514 - (k + 1)) * 5)) (sl1 := (3245 + (514 - (k + 1)) * 1807)) C cv_L_126 (c_X12_tape (x1 := v359) (x2 := v360) (x3 := v361) hoa362 h365) hra362 hoa362 rfl rfl ⟨rfl, rfl, Nat.le_of_ble_eq_true rfl, Nat.le_of_ble_eq_true rfl⟩ ⟨by show _ ≤ 600000; omega, by show _ ≤ 7302250; omega⟩ (Nat.le_of_ble_eq_true rfl) rfl rfl rfl dL_law_992 ?_
        refine v_icmp_eq C 1170 E dL_law_995 rfl (fun c366 E => ?_) (fun c366 E => ?_)
        · refine v_iinc (v := x3 + 6) C 3 [(3, .int (x3 + 6)), (0, va_rf (some b)), (1, va_rf x1), (2, va_rf x2)] dL_law_1170 rfl (k_inc_6 _) (Nat.le_of_ble_eq_true rfl) (by generalize x2 = rr; cases rr <;> rfl) ?_
          refine v_goto C 18 dL_law_1173 rfl ?_
          refine v_widen (k1 := (112 + (514 - k) * 5)) (k2 := (3245 + (514 - k) * 1807)) (by omega) (by omega) ?_
          exact v_sub [1, 2, 3, 0] [(0, va_rf (some b)), (1, va_rf x1), (2, va_rf x2), (3, .int (x3 + 6))] rfl (ih _ _ _ _ _ _ _ _ E)
        · refine v_iconst C dL_law_998 k_iconst_0 ?_
          obtain rfl := Option.some.inj E
          exact absurd hres (by show ¬ (0 : Int32) = 1; decide)
      have E := ite_f E c367
      by_cases c385 : (v1 &&& 31) = 27
      · have E := ite_t E c385
        refine v_tableIn (off := 967) C 1000 dL_law_33 (by rw [c385]; decide) (by rw [c385]; decide) (by rw [c385]; rfl) rfl ?_
        refine v_aload_n (r := x1) C 1 dL_law_1000 rfl ?_
        refine v_aload_n (r := (some b)) C 0 dL_law_1001 rfl ?_
        refine v_iload_n C 3 dL_law_1002 rfl ?_
        refine v_iconst C dL_law_1003 k_iconst_1 ?_
        refine v_iadd C dL_law_1004 ?_
        refine v_sld C hX hbl E dL_law_1005 (fun v368 _ E => ?_)
        refine v_aload_n (r := (some b)) C 0 dL_law_1006 rfl ?_
        refine v_iload_n C 3 dL_law_1007 rfl ?_
        refine v_iconst C dL_law_1008 k_iconst_2 ?_
        refine v_iadd C dL_law_1009 ?_
        refine v_sld C hX hbl E dL_law_1010 (fun v369 _ E => ?_)
        refine v_aload_n (r := (some b)) C 0 dL_law_1011 rfl ?_
        refine v_iload_n C 3 dL_law_1012 rfl ?_
        refine v_iconst C dL_law_1013 k_iconst_3 ?_
        refine v_iadd C dL_law_1014 ?_
        refine v_sld C hX hbl E dL_law_1015 (fun v370 _ E => ?_)
        refine v_i2l C dL_law_1016 ?_
        refine v_bipush C dL_law_1017 k_bipush_32 ?_
        refine v_lshl C dL_law_1019 ?_
        refine v_aload_n (r := (some b)) C 0 dL_law_1020 rfl ?_
        refine v_iload_n C 3 dL_law_1021 rfl ?_
        refine v_iconst C dL_law_1022 k_iconst_4 ?_
        refine v_iadd C dL_law_1023 ?_
        refine v_sld C hX hbl E dL_law_1024 (fun v371 _ E => ?_)
        refine v_i2l C dL_law_1025 ?_
        refine v_ldc2 C ct_L_127 dL_law_1026 ?_
        refine v_land C dL_law_1029 ?_
        refine v_lor C dL_law_1030 ?_
        obtain ⟨a372, h373, E⟩ := bnd E
        obtain ⟨hra372, hoa372⟩ := ob_is h373
        obtain ⟨q374, h375, E⟩ := bnd E
        refine v_callV (r := x1) (As := [.int v368, .int v369, .long ((lshl (v370.toInt64) 32) ||| ((v371.toInt64) &&& (4294967295 : Int64)))]) (rv := (some (.int q374.1))) (st := []) (st1 := [.int q374.1]) (ce1 := (112 + (514 - (k + 1)) * 5)) (sl1 := (3245 + (514 - (k + 1)) * 1807)) C cv_L_129 (c_X11_item (x1 := v368) (x2 := v369) (x3 := ((lshl (v370.toInt64) 32) ||| ((v371.toInt64) &&& (4294967295 : Int64)))) hoa372 h375) hra372 hoa372 rfl rfl ⟨rfl, rfl, Nat.le_of_ble_eq_true rfl, Nat.le_of_ble_eq_true rfl⟩ ⟨by show _ ≤ 600000; omega, by show _ ≤ 7302250; omega⟩ (Nat.le_of_ble_eq_true rfl) rfl rfl rfl dL_law_1031 ?_
        refine v_aload_n (r := x2) C 2 dL_law_1034 rfl ?_
        refine v_aload_n (r := (some b)) C 0 dL_law_1035 rfl ?_
        refine v_iload_n C 3 dL_law_1036 rfl ?_
        refine v_iconst C dL_law_1037 k_iconst_1 ?_
        refine v_iadd C dL_law_1038 ?_
        refine v_sld C hX hbl E dL_law_1039 (fun v376 _ E => ?_)
        refine v_aload_n (r := (some b)) C 0 dL_law_1040 rfl ?_
        refine v_iload_n C 3 dL_law_1041 rfl ?_
        refine v_iconst C dL_law_1042 k_iconst_2 ?_
        refine v_iadd C dL_law_1043 ?_
        refine v_sld C hX hbl E dL_law_1044 (fun v377 _ E => ?_)
        refine v_aload_n (r := (some b)) C 0 dL_law_1045 rfl ?_
        refine v_iload_n C 3 dL_law_1046 rfl ?_
        refine v_iconst C dL_law_1047 k_iconst_3 ?_
        refine v_iadd C dL_law_1048 ?_
        refine v_sld C hX hbl E dL_law_1049 (fun v378 _ E => ?_)
        refine v_i2l C dL_law_1050 ?_
        refine v_bipush C dL_law_1051 k_bipush_32 ?_
        refine v_lshl C dL_law_1053 ?_
        refine v_aload_n (r := (some b)) C 0 dL_law_1054 rfl ?_
        refine v_iload_n C 3 dL_law_1055 rfl ?_
        refine v_iconst C dL_law_1056 k_iconst_4 ?_
        refine v_iadd C dL_law_1057 ?_
        refine v_sld C hX hbl E dL_law_1058 (fun v379 _ E => ?_)
        refine v_i2l C dL_law_1059 ?_
        refine v_ldc2 C ct_L_127 dL_law_1060 ?_
        refine v_land C dL_law_1063 ?_
        refine v_lor C dL_law_1064 ?_
        obtain ⟨a380, h381, E⟩ := bnd E
        obtain ⟨hra380, hoa380⟩ := ob_is h381
        obtain ⟨q382, h383, E⟩ := bnd E
        refine v_callV (r := x2) (As := [.int v376, .int v377, .long ((lshl (v378.toInt64) 32) ||| ((v379.toInt64) &&& (4294967295 : Int64)))]) (rv := (some (.int q382.1))) (st := [.int q374.1]) (st1 := [.int q382.1, .int q374.1]) (ce1 := (112 + (514 - (k + 1)) * 5)) (sl1 := (3245 + (514 - (k + 1)) * 1807)) C cv_L_133 (c_X12_item (x1 := v376) (x2 := v377) (x3 := ((lshl (v378.toInt64) 32) ||| ((v379.toInt64) &&& (4294967295 : Int64)))) hoa380 h383) hra380 hoa380 rfl rfl ⟨rfl, rfl, Nat.le_of_ble_eq_true rfl, Nat.le_of_ble_eq_true rfl⟩ ⟨by show _ ≤ 600000; omega, by show _ ≤ 7302250; omega⟩ (Nat.le_of_ble_eq_true rfl) rfl rfl rfl dL_law_1065 ?_
        refine v_icmp_eq C 1170 E dL_law_1068 rfl (fun c384 E => ?_) (fun c384 E => ?_)
        · refine v_iinc (v := x3 + 6) C 3 [(3, .int (x3 + 6)), (0, va_rf (some b)), (1, va_rf x1), (2, va_rf x2)] dL_law_1170 rfl (k_inc_6 _) (Nat.le_of_ble_eq_true rfl) (by generalize x2 = rr; cases rr <;> rfl) ?_
          refine v_goto C 18 dL_law_1173 rfl ?_
          refine v_widen (k1 := (112 + (514 - k) * 5)) (k2 := (3245 + (514 - k) * 1807)) (by omega) (by omega) ?_
          exact v_sub [1, 2, 3, 0] [(0, va_rf (some b)), (1, va_rf x1), (2, va_rf x2), (3, .int (x3 + 6))] rfl (ih _ _ _ _ _ _ _ _ E)
        · refine v_iconst C dL_law_1071 k_iconst_0 ?_
          obtain rfl := Option.some.inj E
          exact absurd hres (by show ¬ (0 : Int32) = 1; decide)
      have E := ite_f E c385
      by_cases c399 : (v1 &&& 31) = 28
      · have E := ite_t E c399
        refine v_tableIn (off := 1040) C 1073 dL_law_33 (by rw [c399]; decide) (by rw [c399]; decide) (by rw [c399]; rfl) rfl ?_
        refine v_aload_n (r := x1) C 1 dL_law_1073 rfl ?_
        refine v_aload_n (r := (some b)) C 0 dL_law_1074 rfl ?_
        refine v_iload_n C 3 dL_law_1075 rfl ?_
        refine v_iconst C dL_law_1076 k_iconst_1 ?_
        refine v_iadd C dL_law_1077 ?_
        refine v_sld C hX hbl E dL_law_1078 (fun v386 _ E => ?_)
        refine v_aload_n (r := (some b)) C 0 dL_law_1079 rfl ?_
        refine v_iload_n C 3 dL_law_1080 rfl ?_
        refine v_iconst C dL_law_1081 k_iconst_2 ?_
        refine v_iadd C dL_law_1082 ?_
        refine v_sld C hX hbl E dL_law_1083 (fun v387 _ E => ?_)
        obtain ⟨a388, h389, E⟩ := bnd E
        obtain ⟨hra388, hoa388⟩ := ob_is h389
        obtain ⟨q390, h391, E⟩ := bnd E
        refine v_callV (r := x1) (As := [.int v386, .int v387]) (rv := (some (.long q390))) (st := []) (st1 := [.long q390]) (ce1 := (112 + (514 - (k + 1)) * 5)) (sl1 := (3245 + (514 - (k + 1)) * 1807)) C cv_L_134 (c_X11_read (x1 := v386) (x2 := v387) hoa388 h391) hra388 hoa388 rfl rfl ⟨rfl, rfl, Nat.le_of_ble_eq_true rfl, Nat.le_of_ble_eq_true rfl⟩ ⟨by show _ ≤ 600000; omega, by show _ ≤ 7302250; omega⟩ (Nat.le_of_ble_eq_true rfl) rfl rfl rfl dL_law_1084 ?_
        refine v_aload_n (r := x2) C 2 dL_law_1087 rfl ?_
        refine v_aload_n (r := (some b)) C 0 dL_law_1088 rfl ?_
        refine v_iload_n C 3 dL_law_1089 rfl ?_
        refine v_iconst C dL_law_1090 k_iconst_1 ?_
        refine v_iadd C dL_law_1091 ?_
        refine v_sld C hX hbl E dL_law_1092 (fun v392 _ E => ?_)
        refine v_aload_n (r := (some b)) C 0 dL_law_1093 rfl ?_
        refine v_iload_n C 3 dL_law_1094 rfl ?_
        refine v_iconst C dL_law_1095 k_iconst_2 ?_
        refine v_iadd C dL_law_1096 ?_
        refine v_sld C hX hbl E dL_law_1097 (fun v393 _ E => ?_)
        obtain ⟨a394, h395, E⟩ := bnd E
        obtain ⟨hra394, hoa394⟩ := ob_is h395
        obtain ⟨q396, h397, E⟩ := bnd E
        refine v_callV (r := x2) (As := [.int v392, .int v393]) (rv := (some (.long q396))) (st := [.long q390]) (st1 := [.long q396, .long q390]) (ce1 := (112 + (514 - (k + 1)) * 5)) (sl1 := (3245 + (514 - (k + 1)) * 1807)) C cv_L_137 (c_X12_read (x1 := v392) (x2 := v393) hoa394 h397) hra394 hoa394 rfl rfl ⟨rfl, rfl, Nat.le_of_ble_eq_true rfl, Nat.le_of_ble_eq_true rfl⟩ ⟨by show _ ≤ 600000; omega, by show _ ≤ 7302250; omega⟩ (Nat.le_of_ble_eq_true rfl) rfl rfl rfl dL_law_1098 ?_
        refine v_lcmp C dL_law_1101 ?_
        refine v_if_eq C 1170 E dL_law_1102 rfl (fun c398 E => ?_) (fun c398 E => ?_)
        · refine v_iinc (v := x3 + 6) C 3 [(3, .int (x3 + 6)), (0, va_rf (some b)), (1, va_rf x1), (2, va_rf x2)] dL_law_1170 rfl (k_inc_6 _) (Nat.le_of_ble_eq_true rfl) (by generalize x2 = rr; cases rr <;> rfl) ?_
          refine v_goto C 18 dL_law_1173 rfl ?_
          refine v_widen (k1 := (112 + (514 - k) * 5)) (k2 := (3245 + (514 - k) * 1807)) (by omega) (by omega) ?_
          exact v_sub [1, 2, 3, 0] [(0, va_rf (some b)), (1, va_rf x1), (2, va_rf x2), (3, .int (x3 + 6))] rfl (ih _ _ _ _ _ _ _ _ E)
        · refine v_iconst C dL_law_1105 k_iconst_0 ?_
          obtain rfl := Option.some.inj E
          exact absurd hres (by show ¬ (0 : Int32) = 1; decide)
      have E := ite_f E c399
      by_cases c419 : (v1 &&& 31) = 29
      · have E := ite_t E c419
        refine v_tableIn (off := 1074) C 1107 dL_law_33 (by rw [c419]; decide) (by rw [c419]; decide) (by rw [c419]; rfl) rfl ?_
        refine v_aload_n (r := x1) C 1 dL_law_1107 rfl ?_
        refine v_aload_n (r := (some b)) C 0 dL_law_1108 rfl ?_
        refine v_iload_n C 3 dL_law_1109 rfl ?_
        refine v_iconst C dL_law_1110 k_iconst_1 ?_
        refine v_iadd C dL_law_1111 ?_
        refine v_sld C hX hbl E dL_law_1112 (fun v400 _ E => ?_)
        refine v_aload_n (r := (some b)) C 0 dL_law_1113 rfl ?_
        refine v_iload_n C 3 dL_law_1114 rfl ?_
        refine v_iconst C dL_law_1115 k_iconst_2 ?_
        refine v_iadd C dL_law_1116 ?_
        refine v_sld C hX hbl E dL_law_1117 (fun v401 _ E => ?_)
        refine v_aload_n (r := (some b)) C 0 dL_law_1118 rfl ?_
        refine v_iload_n C 3 dL_law_1119 rfl ?_
        refine v_iconst C dL_law_1120 k_iconst_3 ?_
        refine v_iadd C dL_law_1121 ?_
        refine v_sld C hX hbl E dL_law_1122 (fun v402 _ E => ?_)
        refine v_aload_n (r := (some b)) C 0 dL_law_1123 rfl ?_
        refine v_iload_n C 3 dL_law_1124 rfl ?_
        refine v_iconst C dL_law_1125 k_iconst_4 ?_
        refine v_iadd C dL_law_1126 ?_
        refine v_sld C hX hbl E dL_law_1127 (fun v403 _ E => ?_)
        refine v_aload_n (r := (some b)) C 0 dL_law_1128 rfl ?_
        refine v_iload_n C 3 dL_law_1129 rfl ?_
        refine v_iconst C dL_law_1130 k_iconst_5 ?_
        refine v_iadd C dL_law_1131 ?_
        refine v_sld C hX hbl E dL_law_1132 (fun v404 _ E => ?_)
        obtain ⟨a405, h406, E⟩ := bnd E
        obtain ⟨hra405, hoa405⟩ := ob_is h406
        obtain ⟨q407, h408, E⟩ := bnd E
        refine v_callV (r := x1) (As := [.int v400, .int v401, .int v402, .int v403, .int v404]) (rv := (some (.int q407.1))) (st := []) (st1 := [.int q407.1]) (ce1 := (112 + (514 - (k + 1)) * 5)) (sl1 := (3245 + (514 - (k + 1)) * 1807)) C cv_L_138 (c_X11_shift (x1 := v400) (x2 := v401) (x3 := v402) (x4 := v403) (x5 := v404) hoa405 h408) hra405 hoa405 rfl rfl ⟨rfl, rfl, Nat.le_of_ble_eq_true rfl, Nat.le_of_ble_eq_true rfl⟩ ⟨by show _ ≤ 600000; omega, by show _ ≤ 7302250; omega⟩ (Nat.le_of_ble_eq_true rfl) rfl rfl rfl dL_law_1133 ?_
        refine v_aload_n (r := x2) C 2 dL_law_1136 rfl ?_
        refine v_aload_n (r := (some b)) C 0 dL_law_1137 rfl ?_
        refine v_iload_n C 3 dL_law_1138 rfl ?_
        refine v_iconst C dL_law_1139 k_iconst_1 ?_
        refine v_iadd C dL_law_1140 ?_
        refine v_sld C hX hbl E dL_law_1141 (fun v409 _ E => ?_)
        refine v_aload_n (r := (some b)) C 0 dL_law_1142 rfl ?_
        refine v_iload_n C 3 dL_law_1143 rfl ?_
        refine v_iconst C dL_law_1144 k_iconst_2 ?_
        refine v_iadd C dL_law_1145 ?_
        refine v_sld C hX hbl E dL_law_1146 (fun v410 _ E => ?_)
        refine v_aload_n (r := (some b)) C 0 dL_law_1147 rfl ?_
        refine v_iload_n C 3 dL_law_1148 rfl ?_
        refine v_iconst C dL_law_1149 k_iconst_3 ?_
        refine v_iadd C dL_law_1150 ?_
        refine v_sld C hX hbl E dL_law_1151 (fun v411 _ E => ?_)
        refine v_aload_n (r := (some b)) C 0 dL_law_1152 rfl ?_
        refine v_iload_n C 3 dL_law_1153 rfl ?_
        refine v_iconst C dL_law_1154 k_iconst_4 ?_
        refine v_iadd C dL_law_1155 ?_
        refine v_sld C hX hbl E dL_law_1156 (fun v412 _ E => ?_)
        refine v_aload_n (r := (some b)) C 0 dL_law_1157 rfl ?_
        refine v_iload_n C 3 dL_law_1158 rfl ?_
        refine v_iconst C dL_law_1159 k_iconst_5 ?_
        refine v_iadd C dL_law_1160 ?_
        refine v_sld C hX hbl E dL_law_1161 (fun v413 _ E => ?_)
        obtain ⟨a414, h415, E⟩ := bnd E
        obtain ⟨hra414, hoa414⟩ := ob_is h415
        obtain ⟨q416, h417, E⟩ := bnd E
        refine v_callV (r := x2) (As := [.int v409, .int v410, .int v411, .int v412, .int v413]) (rv := (some (.int q416.1))) (st := [.int q407.1]) (st1 := [.int q416.1, .int q407.1]) (ce1 := (112 + (514 - (k + 1)) * 5)) (sl1 := (3245 + (514 - (k + 1)) * 1807)) C cv_L_142 (c_X12_shift (x1 := v409) (x2 := v410) (x3 := v411) (x4 := v412) (x5 := v413) hoa414 h417) hra414 hoa414 rfl rfl ⟨rfl, rfl, Nat.le_of_ble_eq_true rfl, Nat.le_of_ble_eq_true rfl⟩ ⟨by show _ ≤ 600000; omega, by show _ ≤ 7302250; omega⟩ (Nat.le_of_ble_eq_true rfl) rfl rfl rfl dL_law_1162 ?_
        refine v_icmp_eq C 1170 E dL_law_1165 rfl (fun c418 E => ?_) (fun c418 E => ?_)
        · refine v_iinc (v := x3 + 6) C 3 [(3, .int (x3 + 6)), (0, va_rf (some b)), (1, va_rf x1), (2, va_rf x2)] dL_law_1170 rfl (k_inc_6 _) (Nat.le_of_ble_eq_true rfl) (by generalize x2 = rr; cases rr <;> rfl) ?_
          refine v_goto C 18 dL_law_1173 rfl ?_
          refine v_widen (k1 := (112 + (514 - k) * 5)) (k2 := (3245 + (514 - k) * 1807)) (by omega) (by omega) ?_
          exact v_sub [1, 2, 3, 0] [(0, va_rf (some b)), (1, va_rf x1), (2, va_rf x2), (3, .int (x3 + 6))] rfl (ih _ _ _ _ _ _ _ _ E)
        · refine v_iconst C dL_law_1168 k_iconst_0 ?_
          obtain rfl := Option.some.inj E
          exact absurd hres (by show ¬ (0 : Int32) = 1; decide)
      have E := ite_f E c419
      refine v_tableOut C 1170 dL_law_33 (by have hc15 := lv_neT c15 (show ((0 : Int32)).toInt = 0 from by decide); have hc25 := lv_neT c25 (show ((1 : Int32)).toInt = 1 from by decide); have hc37 := lv_neT c37 (show ((2 : Int32)).toInt = 2 from by decide); have hc51 := lv_neT c51 (show ((3 : Int32)).toInt = 3 from by decide); have hc67 := lv_neT c67 (show ((4 : Int32)).toInt = 4 from by decide); have hc81 := lv_neT c81 (show ((5 : Int32)).toInt = 5 from by decide); have hc93 := lv_neT c93 (show ((6 : Int32)).toInt = 6 from by decide); have hc107 := lv_neT c107 (show ((7 : Int32)).toInt = 7 from by decide); have hc121 := lv_neT c121 (show ((8 : Int32)).toInt = 8 from by decide); have hc137 := lv_neT c137 (show ((9 : Int32)).toInt = 9 from by decide); have hc151 := lv_neT c151 (show ((10 : Int32)).toInt = 10 from by decide); have hc163 := lv_neT c163 (show ((11 : Int32)).toInt = 11 from by decide); have hc175 := lv_neT c175 (show ((12 : Int32)).toInt = 12 from by decide); have hc189 := lv_neT c189 (show ((13 : Int32)).toInt = 13 from by decide); have hc205 := lv_neT c205 (show ((14 : Int32)).toInt = 14 from by decide); have hc217 := lv_neT c217 (show ((15 : Int32)).toInt = 15 from by decide); have hc229 := lv_neT c229 (show ((16 : Int32)).toInt = 16 from by decide); have hc243 := lv_neT c243 (show ((17 : Int32)).toInt = 17 from by decide); have hc261 := lv_neT c261 (show ((18 : Int32)).toInt = 18 from by decide); have hc277 := lv_neT c277 (show ((19 : Int32)).toInt = 19 from by decide); have hc287 := lv_neT c287 (show ((20 : Int32)).toInt = 20 from by decide); have hc297 := lv_neT c297 (show ((21 : Int32)).toInt = 21 from by decide); have hc313 := lv_neT c313 (show ((22 : Int32)).toInt = 22 from by decide); have hc325 := lv_neT c325 (show ((23 : Int32)).toInt = 23 from by decide); have hc339 := lv_neT c339 (show ((24 : Int32)).toInt = 24 from by decide); have hc351 := lv_neT c351 (show ((25 : Int32)).toInt = 25 from by decide); have hc367 := lv_neT c367 (show ((26 : Int32)).toInt = 26 from by decide); have hc385 := lv_neT c385 (show ((27 : Int32)).toInt = 27 from by decide); have hc399 := lv_neT c399 (show ((28 : Int32)).toInt = 28 from by decide); have hc419 := lv_neT c419 (show ((29 : Int32)).toInt = 29 from by decide); omega) rfl ?_
      refine v_iinc (v := x3 + 6) C 3 [(3, .int (x3 + 6)), (0, va_rf (some b)), (1, va_rf x1), (2, va_rf x2)] dL_law_1170 rfl (k_inc_6 _) (Nat.le_of_ble_eq_true rfl) (by generalize x2 = rr; cases rr <;> rfl) ?_
      refine v_goto C 18 dL_law_1173 rfl ?_
      refine v_widen (k1 := (112 + (514 - k) * 5)) (k2 := (3245 + (514 - k) * 1807)) (by omega) (by omega) ?_
      exact v_sub [1, 2, 3, 0] [(0, va_rf (some b)), (1, va_rf x1), (2, va_rf x2), (3, .int (x3 + 6))] rfl (ih _ _ _ _ _ _ _ _ E)
set_option maxHeartbeats 4000000 in
theorem w_L_law_0 {b L : Nat} {xs : Nat → Int32} (C : Cx D cA s.heap.size Z p s m #[Value.ref b] meth c code RL 4 ret) (hX : va_X b L xs s s.heap) (hbl : b < s.heap.size)  (res : Int32 × Sh × Nat × Im × Jm × Rf) (hres : res.1 = 1) (K : Sh) (n : Nat) (I : Im) (J : Jm) (R : Rf) (E : f_L_law Z L xs K n I J R = some res) : VW D cA s.heap.size Z p l e room_1 s m #[Value.ref b] below meth c 4 [(0, va_rf (some b))] K n I J R 0 0 (lw_Z below #[Value.ref b] s) 0 [] := by
  unfold f_L_law at E
  refine v_new (ce1 := 1) (sl1 := 19) C nc_L_7 E rfl rfl (Nat.le_of_ble_eq_true rfl) (Nat.le_of_ble_eq_true rfl) dL_law_0 (fun K421 _ E => ?_)
  refine v_mpI E (fun I422 _ E => ?_)
  refine v_mpR E (fun R423 _ E => ?_)
  refine v_dup C dL_law_3 (rf_cat _) ?_
  obtain ⟨q424, h425, E⟩ := bnd E
  refine v_callI (r := (some n)) (a := n) (As := []) (st := [va_rf (some n)]) (ce1 := 64) (sl1 := 1215) C ci_L_9 (c_X11_init  h425) rfl rfl rfl ⟨rfl, rfl, Nat.le_of_ble_eq_true rfl, Nat.le_of_ble_eq_true rfl⟩ ⟨Nat.le_of_ble_eq_true rfl, Nat.le_of_ble_eq_true rfl⟩ (by simp only [List.map_cons, List.map_nil, List.sum_cons, List.sum_nil, rf_cat]; exact Nat.le_of_ble_eq_true rfl) rfl rfl dL_law_4 ?_
  refine v_astore_n (r := (some n)) C [(1, va_rf (some n)), (0, va_rf (some b))] dL_law_7 (Nat.le_of_ble_eq_true rfl) rfl ?_
  refine v_new (ce1 := 65) (sl1 := 1288) C nc_L_10 E rfl rfl (Nat.le_of_ble_eq_true rfl) (Nat.le_of_ble_eq_true rfl) dL_law_8 (fun K426 _ E => ?_)
  refine v_mpI E (fun I427 _ E => ?_)
  refine v_mpR E (fun R428 _ E => ?_)
  refine v_dup C dL_law_11 (rf_cat _) ?_
  obtain ⟨q429, h430, E⟩ := bnd E
  refine v_callI (r := (some q424.2.1)) (a := q424.2.1) (As := []) (st := [va_rf (some q424.2.1)]) (ce1 := 112) (sl1 := 3245) C ci_L_12 (c_X12_init  h430) rfl rfl rfl ⟨rfl, rfl, Nat.le_of_ble_eq_true rfl, Nat.le_of_ble_eq_true rfl⟩ ⟨Nat.le_of_ble_eq_true rfl, Nat.le_of_ble_eq_true rfl⟩ (by simp only [List.map_cons, List.map_nil, List.sum_cons, List.sum_nil, rf_cat]; exact Nat.le_of_ble_eq_true rfl) rfl rfl dL_law_12 ?_
  refine v_astore_n (r := (some q424.2.1)) C [(2, va_rf (some q424.2.1)), (1, va_rf (some n)), (0, va_rf (some b))] dL_law_15 (Nat.le_of_ble_eq_true rfl) rfl ?_
  refine v_iconst C dL_law_16 k_iconst_0 ?_
  refine v_istore_n C [(3, .int 0), (2, va_rf (some q424.2.1)), (1, va_rf (some n)), (0, va_rf (some b))] dL_law_17 (Nat.le_of_ble_eq_true rfl) rfl ?_
  refine v_widen (k1 := (112 + (514 - 514) * 5)) (k2 := (3245 + (514 - 514) * 1807)) (by omega) (by omega) ?_
  exact v_sub [3, 2, 1, 0] [(0, va_rf (some b)), (1, va_rf (some n)), (2, va_rf (some q424.2.1)), (3, .int 0)] rfl (w_L_law_18 C hX hbl res hres  _ (Nat.le_refl _) _ _ _ _ _ _ _ _ E)
end WK99
