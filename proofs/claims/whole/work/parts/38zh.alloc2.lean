section
variable {Z : Nat → Nat} {x n n' M M' nr nc NW nr' nc' NW' i q N u v o s : Nat} {K K' : Sh} {I I' I1 : Im} {J : Jm} {R R' : Rf} {w c d le la : Nat → Nat} {cs : Nat → List Nat} {E : List Nat} {P : List (Nat × Nat)}
set_option maxHeartbeats 400000 in
theorem k_caravan (h : Rel Z x n M K I J R) (v1 v2 v3 : Int32) : ∃ r K1 n1 I1 R1 I2, f_X11_caravan x v1 v2 v3 K n I R = some (r, K1, n1, I1, R1) ∧ f_X12_caravan K1 R1 (x + 62) v1 v2 v3 I1 = some (r, I2) ∧ Rel Z x n1 M K1 I2 J R1 := by
  have h0 := h
  obtain ⟨hC, hS, hn, hMb, hZ, nr, nc, NW, hG⟩ := h
  have hG0 := hG
  obtain ⟨hnum, hru, hca, hnow, hkept, himg, hact, htap, htex, hunr⟩ := RelG_iff.mp hG
  have e1' : ¬ (nI 1 = 0) := by decide
  have e0' : nI 0 = 0 := rfl
  have S11 := cS11 hC
  have hnum0 := hnum
  obtain ⟨g1, g2, g3, g4, g5, g6, g7, g8, g9⟩ := hnum
  have oX : ob K 12 (some x) = some x := ob_ok (by rw [hC.k0])
  unfold f_X11_caravan f_X12_caravan
  rcases rule_at hC hG0 v3 with ⟨r, ra, kd, vv, rn, rw_, w1, w2, w3, w4, w5⟩ | ⟨w4, w5⟩
  · rcases rg v1 1 9 (by omega) (by omega) with ⟨b, p1, p2, p3, p4, p5⟩ | ⟨p4, p5, -⟩
    · have p4 : f_X11_within v1 1 9 = some (nI 1) := p4
      have p5 : ∀ o, f_X12_in o v1 1 9 = some (nI 1) := p5
      rcases rg v2 0 99 (by omega) (by omega) with ⟨st, q1, q2, q3, q4, q5⟩ | ⟨q4, q5, -⟩
      · have q4 : f_X11_within v2 0 99 = some (nI 1) := q4
        have q5 : ∀ o, f_X12_in o v2 0 99 = some (nI 1) := q5
        by_cases cn : nc = 6
        · refine ⟨-4, K, n, I, R, I, ?_, ?_, h0⟩
          · rw [oX, obs, w4, obs, if_neg (by simp), p4, obs, if_neg e1', q4, obs, if_neg e1', g8, if_neg (show ¬ nI nc < 6 by rw [L6, nI_ltI (by omega) (by omega)]; omega)]
          · rw [w5, obs, if_neg e1', p5, obs, if_neg e1', q5, obs, if_neg e1', g9, if_pos (by rw [cn]; rfl)]
        · have hK : ∀ z, z < n → u1 K n (2, 3) z = K z := fun z hz => by rw [u1_ne (by omega)]
          have hKn : u1 K n (2, 3) n = (2, 3) := by rw [u1_eq]
          generalize hK' : u1 K n (2, 3) = K' at hK hKn
          have hR : ∀ z, z < n → z ≠ x + 7 → u2 (u2 (u2 (zr R n none) n 2 none) n 2 (some ra)) (x + 7) nc (some n) z = R z := fun z hz z6 => by rw [u2_row z6, u2_row (by omega), u2_row (by omega), zr_row (by omega)]
          have hR6 : ∀ k, k ≠ nc → u2 (u2 (u2 (zr R n none) n 2 none) n 2 (some ra)) (x + 7) nc (some n) (x + 7) k = R (x + 7) k := fun k hk => by rw [u2_ne hk, u2_row (by omega), u2_row (by omega), zr_row (by omega)]
          have hRn : u2 (u2 (u2 (zr R n none) n 2 none) n 2 (some ra)) (x + 7) nc (some n) n 2 = some ra := by rw [u2_row (by omega), u2_eq]
          have hRr : u2 (u2 (u2 (zr R n none) n 2 none) n 2 (some ra)) (x + 7) nc (some n) (x + 7) nc = some n := u2_eq _ _ _ _
          have hC1 : CSH x K (u2 (u2 (u2 (zr R n none) n 2 none) n 2 (some ra)) (x + 7) nc (some n)) := CSH.u (i := 7) (CSH.o hC (fun z z1 z2 => by rw [u2_row (by omega), u2_row (by omega), zr_row (by omega)])) (rC7 nc (by omega))
          have hC2 : CSH x K' (u2 (u2 (u2 (zr R n none) n 2 none) n 2 (some ra)) (x + 7) nc (some n)) := hC1.kn (fun z _ z2 => hK z (by omega))
          generalize hR' : u2 (u2 (u2 (zr R n none) n 2 none) n 2 (some ra)) (x + 7) nc (some n) = R' at hR hR6 hRn hRr hC1 hC2
          have hS2 : MSH (x + 62) K' R' := hS.congr (fun i hi => hK _ (by omega)) (hR _ (by omega) (by omega))
          have S12' : S12 (x + 62) K' R' := hS2
          have en : x + (n - x) = n := by omega
          have F1 : AF x ((n - x) :: (n - x) :: [85, 86, 87]) [(0, 6), (62, 28)] I (u2 (u2 (u2 (zr I n 0) n 0 (nI b)) n 1 (nI st)) x 6 (nI (nc + 1))) := by
            have z1 := af_z (j := n - x) (AF.refl (x := x) (I := I) (E := (n - x) :: (n - x) :: [85, 86, 87]) (P := [(0, 6), (62, 28)])) (by simp)
            have z3 := (z1.st (j := n - x) (k := 0) (v := nI b) (by simp)).st (j := n - x) (k := 1) (v := nI st) (by simp)
            rw [en] at z3
            exact z3.pf0 (by simp)
          have lo : ∀ z, z < n → z ≠ x → u2 (u2 (u2 (zr I n 0) n 0 (nI b)) n 1 (nI st)) x 6 (nI (nc + 1)) z = I z := fun z hz zx => by rw [u2_row zx, u2_row (by omega), u2_row (by omega), zr_row (by omega)]
          have in0 : u2 (u2 (u2 (zr I n 0) n 0 (nI b)) n 1 (nI st)) x 6 (nI (nc + 1)) n 0 = nI b := by rw [u2_row (by omega), u2_ne (by omega), u2_eq]
          have in1 : u2 (u2 (u2 (zr I n 0) n 0 (nI b)) n 1 (nI st)) x 6 (nI (nc + 1)) n 1 = nI st := by rw [u2_row (by omega), u2_eq]
          have ix : u2 (u2 (u2 (zr I n 0) n 0 (nI b)) n 1 (nI st)) x 6 (nI (nc + 1)) x 6 = nI (nc + 1) := u2_eq _ _ _ _
          generalize hIc : u2 (u2 (u2 (zr I n 0) n 0 (nI b)) n 1 (nI st)) x 6 (nI (nc + 1)) = Ic at F1 lo in0 in1 ix
          have F2 : AF x ((n - x) :: (n - x) :: [85, 86, 87]) [(0, 6), (62, 28)] I (u2 (u2 (u2 (u2 Ic (x + 85) nc (nI b)) (x + 86) nc (nI st)) (x + 87) nc (nI r)) (x + 62) 28 (nI (nc + 1))) := (((F1.st (by simp)).st (by simp)).st (by simp)).pf (by simp)
          generalize hI2 : u2 (u2 (u2 (u2 Ic (x + 85) nc (nI b)) (x + 86) nc (nI st)) (x + 87) nc (nI r)) (x + 62) 28 (nI (nc + 1)) = I2 at F2
          have hz2 : ∀ z, x + 110 ≤ z → I2 z = Ic z := fun z z1 => by rw [← hI2, u2_row (by omega), u2_row (by omega), u2_row (by omega), u2_row (by omega)]
          have hz1 : ∀ z, x + 110 ≤ z → z < n → I2 z = I z := fun z z1 z2 => by rw [hz2 z z1, lo z z2 (by omega)]
          have ok : ∀ {rows flds}, okE rows flds [85, 86, 87] [(0, 6), (62, 28)] = true → (rows.all (fun j => decide (j < 110)) && flds.all (fun f => decide (f.1 < 110))) = true → okE rows flds ((n - x) :: (n - x) :: [85, 86, 87]) [(0, 6), (62, 28)] = true := fun a b => okE_dyn a b (by omega) (by omega)
          have fl : ∀ {j k}, okE [] [(j, k)] [85, 86, 87] [(0, 6), (62, 28)] = true → j < 110 → I2 (x + j) k = I (x + j) k := fun {j k} a b => okE_f (ok a (by simp [b])) F2 (by simp)
          have flx : ∀ {k}, okE [] [(0, k)] [85, 86, 87] [(0, 6), (62, 28)] = true → I2 x k = I x k := fun {k} a => fl (j := 0) (k := k) a (by omega)
          have hw := wqs hnow hkept
          have hdy : ∀ z, x + 110 ≤ z → z < n → I2 z = I z ∧ R' z = R z := fun z z1 z2 => ⟨hz1 z z1 z2, hR z z2 (by omega)⟩
          have hn' : NowS x nc NW n M K' I R := SceneR.kn hnow hK
          have hk' : KeptS x nc NW n M K' I R := SceneR.kn hkept hK
          have b6 : R' (x + 6) = R (x + 6) := hR _ (by omega) (by omega)
          refine ⟨nI nc, K', n + 1, Ic, R', I2, ?_, ?_, hC2, hS2, by omega, hMb, (hZ.kn (fun z hz => hK z (by omega))).af F2, nr, nc + 1, NW, RelG_iff.mpr ⟨⟨g1, by omega, g3, ?_, ?_, ?_, ?_, ?_, ?_⟩, hru.cg (fun r hr => by rw [b6]) (fun a a1 a2 => ⟨hz1 a a1 (by omega), hz1 _ (by omega) a2, hR a (by omega) (by omega), hK a (by omega), hK _ a2⟩) (fun r hr => ?_) (by omega), fun k hk => ?_, hn'.af F2 (ok (by decide) (by decide)) hdy (by rw [hR _ (by omega) (by omega)]) (by omega) (Nat.le_refl _) (by omega) (Nat.le_refl _), hk'.af F2 (ok (by decide) (by decide)) hdy (by rw [hR _ (by omega) (by omega)]) (by omega) (Nat.le_refl _) (by omega) (Nat.le_refl _), himg.af F2 (ok (by decide) (by decide)), hact.af F2 (ok (by decide) (by decide)), htap.af F2 (ok (by decide) (by decide)), htex.af F2 (ok (by decide) (by decide)), hunr.nn (by omega) hK (by rw [hR _ (by omega) (by omega)]) (by rw [hR _ (by omega) (by omega)]) (by rw [hR _ (by omega) (by omega)]) (fun z z1 z2 => (hdy z z1 z2).2) hw⟩⟩
          · have o2 : ob K' 2 (some n) = some n := ob_ok (by rw [hKn])
            have oK : ob K' 12 (some x) = some x := ob_ok (by rw [hK x (by omega), hC.k0])
            have k6 : K' (x + 7) = (24, 6) := by rw [hK _ (by omega)]; exact k11_5 S11
            rw [oX, obs, w4, obs, if_neg (by simp), p4, obs, if_neg e1', q4, obs, if_neg e1', g8, if_pos (show nI nc < 6 by rw [L6, nI_ltI (by omega) (by omega)]; omega), obs, obs, obs, o2, obs]
            unfold f_X1_init f_X1_become
            rw [obs, obs, obs, obs, obs, obs, oK, obs]
            dsimp only
            have g10 : ∀ v v', u2 (u2 (zr I n 0) n 0 v) n 1 v' x 6 = nI nc := fun v v' => by rw [u2_row (by omega), u2_row (by omega), zr_row (by omega)]; exact g8
            have r5 : u2 (u2 (zr R n none) n 2 none) n 2 (some ra) x 5 = some (x + 7) := by rw [u2_row (by omega), u2_row (by omega), zr_row (by omega)]; exact r11_5 S11
            rw [r5, g10, stR_ok (by rw [k6]) (by rw [hKn]) (by rw [k6]; show nc < 6; omega) (by rw [k6]; omega), obs, obs, L1, nI_add, p1, q1, hIc, hR', ix, nI_pred1]
          · have w5' : f_X12_isRule K' Ic (x + 62) v3 = some (nI 1) := by
              have : f_X12_isRule K Ic (x + 62) v3 = some (nI 1) := by
                rw [← w5]
                unfold f_X12_isRule
                rw [lo _ (by omega) (by omega)]
              exact this
            rw [w5', obs, if_neg e1', p5, obs, if_neg e1', q5, obs, if_neg e1', lo (x + 62) (by omega) (by omega), g9, if_neg (show ¬ nI nc = 6 by rw [L6, nI_eq (by omega) (by omega)]; omega), p1, q1, w1, s12_34 S12' (by omega), obs, u2_row (show x + 62 ≠ x + 62 + 23 by omega), lo (x + 62) (by omega) (by omega), g9, s12_35 S12' (by omega), obs, u2_row (show x + 62 ≠ x + 62 + 24 by omega), u2_row (show x + 62 ≠ x + 62 + 23 by omega), lo (x + 62) (by omega) (by omega), g9, s12_36 S12' (by omega), obs, obs, show ∀ a b c, u2 (u2 (u2 Ic (x + 62 + 23) nc a) (x + 62 + 24) nc b) (x + 62 + 25) nc c (x + 62) 28 = nI nc from fun a b c => by rw [u2_row (by omega), u2_row (by omega), u2_row (by omega), lo (x + 62) (by omega) (by omega)]; exact g9, L1, nI_add, u2_eq, nI_pred1]
            rw [← hI2]
          · rw [flx (by decide)]; exact g4
          · rw [fl (by decide) (by omega)]; exact g5
          · rw [flx (by decide)]; exact g6
          · rw [fl (by decide) (by omega)]; exact g7
          · rw [← hI2, u2_row (by omega), u2_row (by omega), u2_row (by omega), u2_row (by omega)]; exact ix
          · rw [← hI2, u2_eq]
          · rw [okE_r (rows := [81, 82, 83, 84]) (flds := []) (ok (by decide) (by decide)) F2 (j := 81) (by decide), okE_r (rows := [81, 82, 83, 84]) (flds := []) (ok (by decide) (by decide)) F2 (j := 82) (by decide), okE_r (rows := [81, 82, 83, 84]) (flds := []) (ok (by decide) (by decide)) F2 (j := 83) (by decide), okE_r (rows := [81, 82, 83, 84]) (flds := []) (ok (by decide) (by decide)) F2 (j := 84) (by decide)]
            exact ⟨rfl, rfl, rfl, fun _ _ => rfl⟩
          · by_cases cr : k = nc
            · subst cr
              refine ⟨n, b, st, r, ra, hRr, hKn, hn, by omega, by rw [hz2 _ hn]; exact in0, p2, p3, by rw [hz2 _ hn]; exact in1, q3, w2, hRn, by rw [b6]; exact w3.1, ?_, ?_, ?_⟩
              · rw [← hI2, u2_row (by omega), u2_row (by omega), u2_row (by omega), u2_eq]
              · rw [← hI2, u2_row (by omega), u2_row (by omega), u2_eq]
              · rw [← hI2, u2_row (by omega), u2_eq]
            · obtain ⟨a, b', st', r', ra', hz⟩ := hca k (by omega)
              have b1 := hz.2.2.1
              have b2 := hz.2.2.2.1
              refine ⟨a, b', st', r', ra', hz.cg (hR6 k cr) (fun r _ => by rw [b6]) (hR a b2 (by omega)) (hK a b2) (hz1 a b1 b2) ?_ ?_ ?_ (by omega) (Nat.le_refl _)⟩
              · rw [← hI2, u2_row (by omega), u2_row (by omega), u2_row (by omega), u2_ne cr, lo _ (by omega) (by omega)]
              · rw [← hI2, u2_row (by omega), u2_row (by omega), u2_ne cr, u2_row (by omega), lo _ (by omega) (by omega)]
              · rw [← hI2, u2_row (by omega), u2_ne cr, u2_row (by omega), u2_row (by omega), lo _ (by omega) (by omega)]
      · have q4 : f_X11_within v2 0 99 = some (nI 0) := q4
        have q5 : ∀ o, f_X12_in o v2 0 99 = some (nI 0) := q5
        refine ⟨-2, K, n, I, R, I, ?_, ?_, h0⟩
        · rw [oX, obs, w4, obs, if_neg (by simp), p4, obs, if_neg e1', q4, obs, if_pos e0']
        · rw [w5, obs, if_neg e1', p5, obs, if_neg e1', q5, obs, if_pos e0']
    · have p4 : f_X11_within v1 1 9 = some (nI 0) := p4
      have p5 : ∀ o, f_X12_in o v1 1 9 = some (nI 0) := p5
      refine ⟨-2, K, n, I, R, I, ?_, ?_, h0⟩
      · rw [oX, obs, w4, obs, if_neg (by simp), p4, obs, if_pos e0']
      · rw [w5, obs, if_neg e1', p5, obs, if_pos e0']
  · refine ⟨-1, K, n, I, R, I, ?_, ?_, h0⟩
    · rw [oX, obs, w4, obs, if_pos rfl]
    · rw [w5, obs, if_pos e0']
end
