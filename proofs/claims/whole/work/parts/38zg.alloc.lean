section
variable {Z : Nat → Nat} {x n n' M M' nr nc NW nr' nc' NW' i q N u v o s : Nat} {K K' : Sh} {I I' I1 : Im} {J : Jm} {R R' : Rf} {w c d le la : Nat → Nat} {cs : Nat → List Nat} {E : List Nat} {P : List (Nat × Nat)}
theorem ZZ.kn (h : ZZ Z x K I) (hK : ∀ z, z < x → K' z = K z) : ZZ Z x K' I := ⟨h.1, fun i hi => ⟨by rw [hK _ (h.1.1 i hi)]; exact (h.2 i hi).1, (h.2 i hi).2⟩⟩
theorem CSH.kn (h : CSH x K R) (hK : ∀ z, x ≤ z → z < x + 62 → K' z = K z) : CSH x K' R := ⟨fun i hi => by rw [hK _ (by omega) (by omega)]; exact h.1 i hi, h.2⟩
theorem rC6 : ∀ k, k < 10 → rC (100 * 6 + k) = 0 := by decide
theorem rC7 : ∀ k, k < 6 → rC (100 * 7 + k) = 0 := by decide
theorem nI_pred1 (m : Nat) : nI (m + 1) - nI 1 = nI m := by
  rw [nI_jI, nI_jI, jsub, nI_jI]
  congr 1
  omega
set_option maxHeartbeats 400000 in
theorem k_rule (h : Rel Z x n M K I J R) (v1 v2 : Int32) : ∃ r K1 n1 I1 R1 I2, f_X11_rule x v1 v2 K n I R = some (r, K1, n1, I1, R1) ∧ f_X12_rule K1 R1 (x + 62) v1 v2 I1 = some (r, I2) ∧ Rel Z x n1 M K1 I2 J R1 := by
  have h0 := h
  obtain ⟨hC, hS, hn, hMb, hZ, nr, nc, NW, hG⟩ := h
  obtain ⟨hnum, hru, hca, hnow, hkept, himg, hact, htap, htex, hunr⟩ := RelG_iff.mp hG
  have e1' : ¬ (nI 1 = 0) := by decide
  have e0' : nI 0 = 0 := rfl
  have S11 := cS11 hC
  have hnum0 := hnum
  obtain ⟨g1, g2, g3, g4, g5, g6, g7, g8, g9⟩ := hnum
  unfold f_X11_rule f_X12_rule
  rcases rg v1 0 6 (by omega) (by omega) with ⟨kd, p1, p2, p3, p4, p5⟩ | ⟨p4, p5, -⟩
  · have p4 : f_X11_within v1 0 6 = some (nI 1) := p4
    have p5 : ∀ o, f_X12_in o v1 0 6 = some (nI 1) := p5
    rcases rg v2 0 6 (by omega) (by omega) with ⟨vv, q1, q2, q3, q4, q5⟩ | ⟨q4, q5, -⟩
    · have q4 : f_X11_within v2 0 6 = some (nI 1) := q4
      have q5 : ∀ o, f_X12_in o v2 0 6 = some (nI 1) := q5
      have oX : ob K 12 (some x) = some x := ob_ok (by rw [hC.k0])
      by_cases cn : nr = 10
      · refine ⟨-4, K, n, I, R, I, ?_, ?_, h0⟩
        · rw [p4, obs, if_neg e1', q4, obs, if_neg e1', oX, obs, g6, if_neg (show ¬ nI nr < 10 by rw [L10, nI_ltI (by omega) (by omega)]; omega)]
        · rw [p5, obs, if_neg e1', q5, obs, if_neg e1', g7, if_pos (by rw [cn]; rfl)]
      · -- the new heap
        have hK : ∀ z, z < n → u1 (u1 K n (6, 5)) (n + 1) (21, 5) z = K z := fun z hz => by rw [u1_ne (by omega), u1_ne (by omega)]
        have hKn : u1 (u1 K n (6, 5)) (n + 1) (21, 5) n = (6, 5) := by rw [u1_ne (by omega), u1_eq]
        have hKn1 : u1 (u1 K n (6, 5)) (n + 1) (21, 5) (n + 1) = (21, 5) := by rw [u1_eq]
        generalize hK' : u1 (u1 K n (6, 5)) (n + 1) (21, 5) = K' at hK hKn hKn1
        have hR : ∀ z, z < n → z ≠ x + 6 → u2 (u2 (zr R n none) n 3 (some (n + 1))) (x + 6) nr (some n) z = R z := fun z hz z6 => by rw [u2_row z6, u2_row (by omega), zr_row (by omega)]
        have hR6 : ∀ k, k ≠ nr → u2 (u2 (zr R n none) n 3 (some (n + 1))) (x + 6) nr (some n) (x + 6) k = R (x + 6) k := fun k hk => by rw [u2_ne hk, u2_row (by omega), zr_row (by omega)]
        have hRn : u2 (u2 (zr R n none) n 3 (some (n + 1))) (x + 6) nr (some n) n 3 = some (n + 1) := by rw [u2_row (by omega), u2_eq]
        have hRr : u2 (u2 (zr R n none) n 3 (some (n + 1))) (x + 6) nr (some n) (x + 6) nr = some n := u2_eq _ _ _ _
        have hC1 : CSH x K (u2 (u2 (zr R n none) n 3 (some (n + 1))) (x + 6) nr (some n)) := CSH.u (i := 6) (CSH.o hC (fun z z1 z2 => by rw [u2_row (by omega), zr_row (by omega)])) (rC6 nr (by omega))
        have hC2 : CSH x K' (u2 (u2 (zr R n none) n 3 (some (n + 1))) (x + 6) nr (some n)) := hC1.kn (fun z _ z2 => hK z (by omega))
        generalize hR' : u2 (u2 (zr R n none) n 3 (some (n + 1))) (x + 6) nr (some n) = R' at hR hR6 hRn hRr hC1 hC2
        have hS2 : MSH (x + 62) K' R' := hS.congr (fun i hi => hK _ (by omega)) (hR _ (by omega) (by omega))
        have S12' : S12 (x + 62) K' R' := hS2
        have en : x + (n - x) = n := by omega
        have en1 : x + (n + 1 - x) = n + 1 := by omega
        have F1 : AF x ((n - x) :: (n + 1 - x) :: [81, 82, 83]) [(0, 4), (62, 27)] I (u2 (u2 (u2 (u2 (zr (zr I n 0) (n + 1) 0) n 0 (nI kd)) n 1 (nI nr)) n 2 (nI vv)) x 4 (nI (nr + 1))) := by
          have z1 := af_z (j := n - x) (AF.refl (x := x) (I := I) (E := (n - x) :: (n + 1 - x) :: [81, 82, 83]) (P := [(0, 4), (62, 27)])) (by simp)
          have z2 := af_z (j := n + 1 - x) z1 (by simp)
          have z3 := ((z2.st (j := n - x) (k := 0) (v := nI kd) (by simp)).st (j := n - x) (k := 1) (v := nI nr) (by simp)).st (j := n - x) (k := 2) (v := nI vv) (by simp)
          rw [en, en1] at z3
          exact z3.pf0 (by simp)
        have lo : ∀ z, z < n → z ≠ x → u2 (u2 (u2 (u2 (zr (zr I n 0) (n + 1) 0) n 0 (nI kd)) n 1 (nI nr)) n 2 (nI vv)) x 4 (nI (nr + 1)) z = I z := fun z hz zx => by rw [u2_row zx, u2_row (by omega), u2_row (by omega), u2_row (by omega), zr_row (by omega), zr_row (by omega)]
        have in0 : u2 (u2 (u2 (u2 (zr (zr I n 0) (n + 1) 0) n 0 (nI kd)) n 1 (nI nr)) n 2 (nI vv)) x 4 (nI (nr + 1)) n 0 = nI kd := by rw [u2_row (by omega), u2_ne (by omega), u2_ne (by omega), u2_eq]
        have in1 : u2 (u2 (u2 (u2 (zr (zr I n 0) (n + 1) 0) n 0 (nI kd)) n 1 (nI nr)) n 2 (nI vv)) x 4 (nI (nr + 1)) n 1 = nI nr := by rw [u2_row (by omega), u2_ne (by omega), u2_eq]
        have in2 : u2 (u2 (u2 (u2 (zr (zr I n 0) (n + 1) 0) n 0 (nI kd)) n 1 (nI nr)) n 2 (nI vv)) x 4 (nI (nr + 1)) n 2 = nI vv := by rw [u2_row (by omega), u2_eq]
        have in4 : u2 (u2 (u2 (u2 (zr (zr I n 0) (n + 1) 0) n 0 (nI kd)) n 1 (nI nr)) n 2 (nI vv)) x 4 (nI (nr + 1)) n 4 = nI 0 := by rw [u2_row (by omega), u2_ne (by omega), u2_ne (by omega), u2_ne (by omega), zr_row (by omega)]; simp [zr]; rfl
        have inr : ∀ k, u2 (u2 (u2 (u2 (zr (zr I n 0) (n + 1) 0) n 0 (nI kd)) n 1 (nI nr)) n 2 (nI vv)) x 4 (nI (nr + 1)) (n + 1) k = nI 0 := fun k => by rw [u2_row (by omega), u2_row (by omega), u2_row (by omega), u2_row (by omega)]; simp [zr]; rfl
        have ix : u2 (u2 (u2 (u2 (zr (zr I n 0) (n + 1) 0) n 0 (nI kd)) n 1 (nI nr)) n 2 (nI vv)) x 4 (nI (nr + 1)) x 4 = nI (nr + 1) := u2_eq _ _ _ _
        have ixk : ∀ k, k ≠ 4 → u2 (u2 (u2 (u2 (zr (zr I n 0) (n + 1) 0) n 0 (nI kd)) n 1 (nI nr)) n 2 (nI vv)) x 4 (nI (nr + 1)) x k = I x k := fun k hk => by rw [u2_ne hk, u2_row (by omega), u2_row (by omega), u2_row (by omega), zr_row (by omega), zr_row (by omega)]
        generalize hIc : u2 (u2 (u2 (u2 (zr (zr I n 0) (n + 1) 0) n 0 (nI kd)) n 1 (nI nr)) n 2 (nI vv)) x 4 (nI (nr + 1)) = Ic at F1 lo in0 in1 in2 in4 inr ix ixk
        have F2 : AF x ((n - x) :: (n + 1 - x) :: [81, 82, 83]) [(0, 4), (62, 27)] I (u2 (u2 (u2 (u2 Ic (x + 81) nr (nI kd)) (x + 82) nr (nI vv)) (x + 83) nr 0) (x + 62) 27 (nI (nr + 1))) := (((F1.st (by simp)).st (by simp)).st (by simp)).pf (by simp)
        generalize hI2 : u2 (u2 (u2 (u2 Ic (x + 81) nr (nI kd)) (x + 82) nr (nI vv)) (x + 83) nr 0) (x + 62) 27 (nI (nr + 1)) = I2 at F2
        have hz2 : ∀ z, x + 110 ≤ z → I2 z = Ic z := fun z z1 => by rw [← hI2, u2_row (by omega), u2_row (by omega), u2_row (by omega), u2_row (by omega)]
        have hz1 : ∀ z, x + 110 ≤ z → z < n → I2 z = I z := fun z z1 z2 => by rw [hz2 z z1, lo z z2 (by omega)]
        have ok : ∀ {rows flds}, okE rows flds [81, 82, 83] [(0, 4), (62, 27)] = true → (rows.all (fun j => decide (j < 110)) && flds.all (fun f => decide (f.1 < 110))) = true → okE rows flds ((n - x) :: (n + 1 - x) :: [81, 82, 83]) [(0, 4), (62, 27)] = true := fun a b => okE_dyn a b (by omega) (by omega)
        have fl : ∀ {j k}, okE [] [(j, k)] [81, 82, 83] [(0, 4), (62, 27)] = true → j < 110 → I2 (x + j) k = I (x + j) k := fun {j k} a b => okE_f (ok a (by simp [b])) F2 (by simp)
        have flx : ∀ {k}, okE [] [(0, k)] [81, 82, 83] [(0, 4), (62, 27)] = true → I2 x k = I x k := fun {k} a => fl (j := 0) (k := k) a (by omega)
        have r84 : I2 (x + 84) = I (x + 84) := okE_r (rows := [84]) (flds := []) (ok (by decide) (by decide)) F2 (by decide)
        have hw := wqs hnow hkept
        have hdy : ∀ z, x + 110 ≤ z → z < n → I2 z = I z ∧ R' z = R z := fun z z1 z2 => ⟨hz1 z z1 z2, hR z z2 (by omega)⟩
        have hn' : NowS x nc NW n M K' I R := SceneR.kn hnow hK
        have hk' : KeptS x nc NW n M K' I R := SceneR.kn hkept hK
        refine ⟨nI nr, K', n + 2, Ic, R', I2, ?_, ?_, hC2, hS2, by omega, hMb, (hZ.kn (fun z hz => hK z (by omega))).af F2, nr + 1, nc, NW, RelG_iff.mpr ⟨⟨by omega, g2, g3, ?_, ?_, ?_, ?_, ?_, ?_⟩, fun r hr => ?_, hca.cg (fun k _ => by rw [hR _ (by omega) (by omega)]) (fun r hr => hR6 r (by omega)) (fun a _ a1 a2 => ⟨hz1 a a1 a2, hR a a2 (by omega), hK a a2⟩) (fun k hk => ?_) (by omega) (by omega), hn'.af F2 (ok (by decide) (by decide)) hdy (by rw [hR _ (by omega) (by omega)]) (by omega) (Nat.le_refl _) (Nat.le_refl _) (Nat.le_refl _), hk'.af F2 (ok (by decide) (by decide)) hdy (by rw [hR _ (by omega) (by omega)]) (by omega) (Nat.le_refl _) (Nat.le_refl _) (Nat.le_refl _), himg.af F2 (ok (by decide) (by decide)), hact.af F2 (ok (by decide) (by decide)), htap.af F2 (ok (by decide) (by decide)), htex.af F2 (ok (by decide) (by decide)), hunr.nn (by omega) hK (by rw [hR _ (by omega) (by omega)]) (by rw [hR _ (by omega) (by omega)]) (by rw [hR _ (by omega) (by omega)]) (fun z z1 z2 => (hdy z z1 z2).2) hw⟩⟩
        · have o7 : ob (u1 K n (6, 5)) 12 (some x) = some x := ob_ok (by rw [u1_ne (by omega), hC.k0])
          have o6 : ob K' 6 (some n) = some n := ob_ok (by rw [hKn])
          have oK : ob K' 12 (some x) = some x := ob_ok (by rw [hK x (by omega), hC.k0])
          have i8 : zr I n 0 x 4 = nI nr := by rw [zr_row (by omega)]; exact g6
          have k6 : K' (x + 6) = (25, 10) := by rw [hK _ (by omega)]; exact k11_3 S11
          rw [p4, obs, if_neg e1', q4, obs, if_neg e1', oX, obs, g6, if_pos (show nI nr < 10 by rw [L10, nI_ltI (by omega) (by omega)]; omega), obs, obs, obs, o7, obs, i8, p1, q1]
          unfold f_X5_init
          rw [obs, obs, hK', o6, obs, obs, obs, obs, obs, obs]
          dsimp only
          have g10 : u2 (u2 (u2 (zr (zr I n 0) (n + 1) 0) n 0 (nI kd)) n 1 (nI nr)) n 2 (nI vv) x 4 = nI nr := by rw [u2_row (by omega), u2_row (by omega), u2_row (by omega), zr_row (by omega), zr_row (by omega)]; exact g6
          rw [r11_3 S11, stR_ok (by rw [k6]) (by rw [hKn]) (by rw [k6]; show nr < 10; omega) (by rw [k6]; omega), obs, oK, obs, obs, g10, L1, nI_add, hIc, hR', ix, nI_pred1]
        · rw [p5, obs, if_neg e1', q5, obs, if_neg e1', lo (x + 62) (by omega) (by omega), g7, if_neg (show ¬ nI nr = 10 by rw [L10, nI_eq (by omega) (by omega)]; omega), p1, q1, s12_30 S12' (by omega), obs, u2_row (show x + 62 ≠ x + 62 + 19 by omega), lo (x + 62) (by omega) (by omega), g7, s12_31 S12' (by omega), obs, u2_row (show x + 62 ≠ x + 62 + 20 by omega), u2_row (show x + 62 ≠ x + 62 + 19 by omega), lo (x + 62) (by omega) (by omega), g7, s12_32 S12' (by omega), obs, obs, show ∀ a b c, u2 (u2 (u2 Ic (x + 62 + 19) nr a) (x + 62 + 20) nr b) (x + 62 + 21) nr c (x + 62) 27 = nI nr from fun a b c => by rw [u2_row (by omega), u2_row (by omega), u2_row (by omega), lo (x + 62) (by omega) (by omega)]; exact g7, L1, nI_add, u2_eq, nI_pred1]
          rw [← hI2]
        · rw [flx (by decide)]; exact g4
        · rw [fl (by decide) (by omega)]; exact g5
        · rw [← hI2, u2_row (by omega), u2_row (by omega), u2_row (by omega), u2_row (by omega)]; exact ix
        · rw [← hI2, u2_eq]
        · rw [flx (by decide)]; exact g8
        · rw [fl (by decide) (by omega)]; exact g9
        · by_cases cr : r = nr
          · subst cr
            refine ⟨n, kd, vv, 0, fun _ => 0, hRr, ⟨⟨hKn, hRn, hKn1⟩, hn, by rw [hz2 _ hn]; exact in0, by rw [hz2 _ hn]; exact in2, p3, q3, fun k _ => by rw [hz2 _ (by omega)]; exact inr k⟩, by omega, by rw [hz2 _ hn]; exact in1, by rw [hz2 _ hn]; exact in4, by omega, fun k => ⟨Nat.zero_le _, fun _ => rfl⟩, ?_, ?_, ?_, fun k hk => by omega⟩
            · rw [← hI2, u2_row (by omega), u2_row (by omega), u2_row (by omega), u2_eq]
            · rw [← hI2, u2_row (by omega), u2_row (by omega), u2_eq]
            · rw [← hI2, u2_row (by omega), u2_eq]
              rfl
          · obtain ⟨a, kd', v', rn', rw', hz⟩ := hru r (by omega)
            have b1 := hz.2.1.2.1
            have b2 := hz.2.2.1
            refine ⟨a, kd', v', rn', rw', hz.cg (hR6 r cr) (hR a (by omega) (by omega)) ⟨hK a (by omega), hK _ (by omega)⟩ (hz1 a b1 (by omega)) (hz1 _ (by omega) (by omega)) ?_ ?_ ?_ (fun k hk => by rw [r84]) (by omega)⟩
            · rw [← hI2, u2_row (by omega), u2_row (by omega), u2_row (by omega), u2_ne cr, lo _ (by omega) (by omega)]
            · rw [← hI2, u2_row (by omega), u2_row (by omega), u2_ne cr, u2_row (by omega), lo _ (by omega) (by omega)]
            · rw [← hI2, u2_row (by omega), u2_ne cr, u2_row (by omega), u2_row (by omega), lo _ (by omega) (by omega)]
        · rw [okE_r (rows := [85, 86, 87]) (flds := []) (ok (by decide) (by decide)) F2 (j := 85) (by decide), okE_r (rows := [85, 86, 87]) (flds := []) (ok (by decide) (by decide)) F2 (j := 86) (by decide), okE_r (rows := [85, 86, 87]) (flds := []) (ok (by decide) (by decide)) F2 (j := 87) (by decide)]
          exact ⟨rfl, rfl, rfl⟩
    · have q4 : f_X11_within v2 0 6 = some (nI 0) := q4
      have q5 : ∀ o, f_X12_in o v2 0 6 = some (nI 0) := q5
      refine ⟨-2, K, n, I, R, I, ?_, ?_, h0⟩
      · rw [p4, obs, if_neg e1', q4, obs, if_pos e0']
      · rw [p5, obs, if_neg e1', q5, obs, if_pos e0']
  · have p4 : f_X11_within v1 0 6 = some (nI 0) := p4
    have p5 : ∀ o, f_X12_in o v1 0 6 = some (nI 0) := p5
    refine ⟨-1, K, n, I, R, I, ?_, ?_, h0⟩
    · rw [p4, obs, if_pos e0']
    · rw [p5, obs, if_pos e0']
end
