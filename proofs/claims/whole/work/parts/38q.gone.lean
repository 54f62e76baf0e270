section
variable {Z : Nat → Nat} {x n M nr nc NW i q N : Nat} {K : Sh} {I I1 : Im} {J : Jm} {R R1 : Rf} {w c d le la : Nat → Nat} {cs : Nat → List Nat}
/-- a row of stands gone by hand (or by a tape): the class -/
theorem cls_row {k a b st r ra z v : Nat} {rw : Nat → Nat} (hC : CSH x K R) (h : NowR x (x + 8) i q n M N (x + 73) (x + 74) w c d cs le la K I R) (hc : CarR x nr k n a b st r ra K I R) (hz : z = x + 16 ∨ z = x + 49) (hKz : K z = (21, 5)) (hrw : ∀ k, k < 5 → I z k = nI (rw k)) (hr6 : ∀ k, rw k ≤ 6) (hv : v ≤ 6) (hM : M ≤ 800000) (hM7 : 100 ≤ M) :
    Ok (Option.bind (f_X10_become K R (x + 39) (some (x + 9)) I) fun q9 => f_X8_make K R (x + 29) (some q) (some (x + 39)) (some a) (some z) q9) (fun I1 => (∀ y, y < x + 29 ∨ x + 50 ≤ y → I1 y = I y) ∧ TripC (x + 29) (x + 39) (wlN w N) I1 (tripG w c cs N b st 7 v rw (wlV w c N) (wlV w d N) (wyV w c N) le la (wlN w N))) := by
  refine Ok.bind (c_become (P := fun I1 => (∀ y, y < x + 40 ∨ x + 44 ≤ y → I1 y = I y) ∧ WlF (x + 39) (wlN w N) M I1 (wlV w c N) (wlV w d N) le la) (cS10t hC) (cS10n hC) (fun i j hi hj => by omega) (fun I1 g1 g2 => ⟨fun y hy => g1 y (by omega) (by omega) (by omega) (by omega), trial_wl h g2⟩)) (fun I1 hI1 => ?_)
  obtain ⟨g1, g2⟩ := hI1
  obtain ⟨c1, c2, c3, c4, c5, c6, c7, c8, c9, c10, c11, c12, c13, c14, c15⟩ := hc
  have hw := h.2.1.qf (QF.cls (fun y hy => g1 y (by omega))) QR.refl
  have hq := h.2.1.2.2.1
  refine c_make (M := M) (x3 := R a 2) (x4 := some z) (cS8 hC) (cS10t hC) hM (fun i hi => by omega) (fun y hy => ?_) (by rw [c2]) (by unfold TD; omega) rfl c6 c7 (fun y hy => ?_) hr6 hv hw.2.2.2.1 (Or.inr ⟨z, rfl, hKz, fun k hk => by rw [g1 z (by omega)]; exact hrw k hk, Or.inr (Or.inr rfl)⟩) (by rw [g1 a (by omega)]; exact c5) (by rw [g1 a (by omega)]; exact c8) (by omega) g2 (fun I2 k1 k2 => ⟨fun y hy => (k1 y (by unfold TD; omega)).trans (g1 y (by omega)), k2⟩)
  · unfold TD
    rcases hy with rfl | rfl | hy
    · omega
    · omega
    · have := h.2.1.2.2.2.2.1 y hy
      omega
  · rcases hy with ⟨hy, -⟩ | hy
    · cases hy
    · cases hy
      unfold TD
      omega
set_option maxHeartbeats 1000000 in
theorem k_gone (h : Rel Z x n M K I J R) (hM7 : 100 ≤ M) (v1 v2 : Int32) : ∃ r I1 I2, f_X11_gone K R x v1 v2 I = some (r, I1) ∧ f_X12_gone K R (x + 62) v1 v2 I1 = some (r, I2) ∧ Rel Z x n M K I2 J R := by
  have h0 := h
  obtain ⟨hC, hS, hn, hMb, hZ, nr, nc, NW, hG⟩ := h
  have hG0 := hG
  obtain ⟨hnum, hru, hca, hnow, -⟩ := RelG_iff.mp hG
  have e1 : ¬ ((1 : Int32) = 0) := by decide
  have e1' : ¬ (nI 1 = 0) := by decide
  have S11 := cS11 hC
  have o7 : ob K 7 (R x 7) = some (x + 8) := o11_7 S11
  have o15 : ob K 11 (R x 15) = some (x + 39) := o11_15 S11
  have o12 : ob K 9 (R x 12) = some (x + 29) := o11_12 S11
  unfold f_X11_gone f_X12_gone
  rcases car_at hC hG0 v1 with ⟨k, a, b, st, r, ra, q1, q2, q3, q4, q5⟩ | ⟨q4, q5⟩
  · rcases ask_at (K := K) v2 with ⟨m, p1, p2, p3, p4⟩ | ⟨p3, p4⟩
    · rcases hnow.1 with ⟨t1, t2⟩ | ⟨i, q, N, w, c, d, cs, le, la, t1, t2, t3⟩
      · refine ⟨-3, I, I, ?_, ?_, h0⟩
        · rw [q4, obs, if_neg (by simp), p3, obs, if_neg e1, o7, obs, if_pos t2]
        · rw [q5, obs, if_neg e1', p4, obs, if_neg e1, t1, if_neg no_neg1]
      · subst q1 p1
        have hnr := hnum.1
        have hnc := hnum.2.1
        obtain ⟨a0, kd0, v0, rn0, rwr0, hrule0⟩ := hru 0 (by have := q3.2.2.2.2.2.2.2.2.2.1; omega)
        obtain ⟨nh, hnh, hh1, hh2, hd, hhd⟩ := hnow.2.2.2
        have hi5 : i < 5 := by have := hnum.2.2.1; omega
        have hst : st ≤ M := by have := q3.2.2.2.2.2.2.2.2.1; omega
        have hv6 := hrule0.2.1.2.2.2.2.2.1
        obtain ⟨rw, hrw⟩ : ∃ rw : Nat → Nat, rw = fun k => if k < nh ∧ k < 5 then hd k else 0 := ⟨_, rfl⟩
        have hr6 : ∀ k, rw k ≤ 6 := fun k => by
          rw [hrw]
          show (if k < nh ∧ k < 5 then hd k else 0) ≤ 6
          split
          · rename_i z; exact (hhd k z.2).1
          · omega
        have tb := trip_b t3 (b := b) (st := st) (kd := 7) hv6 hr6 hst hMb rfl
        have oq : R (x + 8) 0 = some q := t3.1
        have nn : ¬ (R (x + 8) 0 = none) := by rw [oq]; simp
        have rs1 : R (x + 8) 1 = some (x + 9) := r6_1 (cS6n hC)
        have rs5 : R (x + 8) 5 = some (x + 16) := r6_5 (cS6n hC)
        have r15 : R x 15 = some (x + 39) := r11_15 S11
        obtain ⟨I1, s1, s2, s5⟩ := cls_row (v := v0) (rw := rw) hC t3 q3 (Or.inl rfl) (k6_5 (cS6n hC)) (fun k hk => by
          have := (hhd k hk).2.1
          rw [hrw]
          show I (x + 16) k = nI (if k < nh ∧ k < 5 then hd k else 0)
          by_cases c : k < nh
          · rw [if_pos ⟨c, hk⟩]; rw [if_pos c] at this; exact this
          · rw [if_neg (fun z => c z.1)]; rw [if_neg c] at this; exact this) hr6 hv6 hMb hM7
        have hQ1 : QF x I I1 := QF.cls s2
        have t3' := t3.qf (by omega) ⟨by omega, by decide⟩ ⟨by omega, by decide⟩ hQ1 QR.refl
        have ct := c_tell hC t3'.2.1 t3'.1 (b := b) (m := m) s5 tb.1 p2
        have ti1 : I1 (x + 62) 1 = nI i := by rw [hQ1.f (k := 1) (by decide)]; exact t1
        have ref : Ok (Option.bind (f_X12_lay K R (x + 62) I1) fun q5 => f_X12_go K R (x + 62) (nI b) (nI st) (nI 0) (nI 7) q5) (fun I2 => FM (x + 62) mS mF I1 I2 ∧ I2 (x + 62) 21 = nI (wlN w N) ∧ TripM (x + 62) (wlN w N) I2 (tripG w c cs N b st 7 v0 rw (wlV w c N) (wlV w d N) (wyV w c N) le la (wlN w N))) := by
          refine Ok.bind (lay_R (P := fun I2 => FM (x + 62) layS [21] I1 I2 ∧ LayG (x + 62) (wlN w N) M I2 (wlV w c N) (wlV w d N) (wyV w c N) le la) hS hi5 ti1 t3' (fun I2 F L => ⟨F, L⟩)) (fun I2 hI2 => ?_)
          obtain ⟨F, L⟩ := hI2
          have hQ2 : QF x I I2 := hQ1.trans (QF.fm F (by decide) (by decide))
          have t4 := t3.2.1.qf hQ2 QR.refl
          have hW5 := wlN_le w N
          refine m_goG (rw := rw) (v := v0) hS hi5 q3.2.2.2.2.2.2.1 (by omega) (by omega) hv6 hr6 hMb hst t4.1 t4.2.1 (by rw [hQ2.f (k := 1) (by decide)]; exact t1) L (by show I2 (x + 82) 0 = _; rw [hQ2.m (j := 82) (by omega) (by decide)]; exact hrule0.2.2.2.2.2.2.2.2.1) (fun _ k hk => ⟨fun z => by omega, fun z => by omega, fun _ => ⟨nh, by rw [hQ2.f (k := 29) (by decide)]; exact hh2, hnh, ?_⟩⟩) (fun z => by omega) (fun I3 h3 T => ⟨(F.mono (by decide) (by decide)).trans (h3.mono (by decide) (by decide)), ?_, T⟩)
          · rw [hrw]
            show if k < nh then I2 (x + 88) k = nI (if k < nh ∧ k < 5 then hd k else 0) else (if k < nh ∧ k < 5 then hd k else 0) = 0
            by_cases c : k < nh
            · rw [if_pos c, if_pos ⟨c, by omega⟩, hQ2.m (j := 88) (by omega) (by decide)]
              exact (hhd k (by omega)).2.2 c
            · rw [if_neg c, if_neg (fun z => c z.1)]
          · rw [h3.fld (by decide) (by decide)]
            exact L.1
        obtain ⟨I2, u1, u2', u3, u4⟩ := ref
        have hQ2 : QF x I I2 := hQ1.trans (QF.fm u2' (by decide) (by decide))
        have mt := m_tell (b := b) (m := m) hS hi5 ((t3.2.1.qf hQ2 QR.refl).1) (by rw [hQ2.f (k := 1) (by decide)]; exact t1) u3 (wlN_le _ _) (by omega : k < 6) (by rw [hQ2.m (j := 85) (by omega) (by decide)]; exact q3.2.2.2.2.2.2.2.2.2.2.2.2.1) u4 tb.1 p2
        obtain ⟨I0, y1, y2⟩ := bnd s1
        obtain ⟨I0', z1, z2⟩ := bnd u1
        refine ⟨tellV (tripG w c cs N b st 7 v0 rw (wlV w c N) (wlV w d N) (wyV w c N) le la (wlN w N)) (wlN w N) (laV w c 4 1 N) b m, I1, I2, ?_, ?_, h0.qf hQ2 QR.refl hC hS⟩
        · rw [q4, obs, if_neg (by simp), p3, obs, if_neg e1, o7, obs, if_neg nn, o15, obs, rs1, y1, obs, o12, obs, oq, r15, rs5, y2, obs]
          rw [ob_ok (by rw [q3.2.1]), obs, s2 a (by have := q3.2.2.1; omega), q3.2.2.2.2.1, ct, obs]
        · have l1 : ldI K I0' (R (x + 62) 34) (nI k) = some (nI b) := by
            obtain ⟨F, L⟩ : FM (x + 62) layS [21] I1 I0' ∧ True := by
              obtain ⟨r, e, F⟩ := lay_R (P := fun I2 => FM (x + 62) layS [21] I1 I2) hS hi5 ti1 t3' (fun I2 F _ => F)
              rw [z1] at e
              cases e
              exact ⟨F, trivial⟩
            rw [l12_34 hS (by omega), F.arr (by decide) (by decide)]
            exact congrArg some ((congrFun (hQ1.m (j := 85) (by omega) (by decide)) k).trans q3.2.2.2.2.2.2.2.2.2.2.2.2.1)
          have l2 : ldI K I0' (R (x + 62) 35) (nI k) = some (nI st) := by
            obtain ⟨F, L⟩ : FM (x + 62) layS [21] I1 I0' ∧ True := by
              obtain ⟨r, e, F⟩ := lay_R (P := fun I2 => FM (x + 62) layS [21] I1 I2) hS hi5 ti1 t3' (fun I2 F _ => F)
              rw [z1] at e
              cases e
              exact ⟨F, trivial⟩
            rw [l12_35 hS (by omega), F.arr (by decide) (by decide)]
            exact congrArg some ((congrFun (hQ1.m (j := 86) (by omega) (by decide)) k).trans q3.2.2.2.2.2.2.2.2.2.2.2.2.2.1)
          rw [isCar_eq (hQ1.f (k := 28) (by decide)), q5, obs, if_neg e1', p4, obs, if_neg e1, ti1, if_pos (yes_nI (by omega)), z1, obs, l1, obs, l2, obs, L0, L7, z2, obs, mt, obs]
    · refine ⟨-1, I, I, ?_, ?_, h0⟩
      · rw [q4, obs, if_neg (by simp), p3, obs, if_pos rfl]
      · rw [q5, obs, if_neg e1', p4, obs, if_pos rfl]
  · refine ⟨-1, I, I, ?_, ?_, h0⟩
    · rw [q4, obs, if_pos rfl]
    · rw [q5, obs, if_pos (show nI 0 = 0 from rfl)]
end
