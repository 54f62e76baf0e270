/-! THE SIMPLE QUESTIONS: holds, drinks -/
theorem tsN_mod (t h b y : Nat) : tsN t (h % 24) b y = tsN t h b y := by
  unfold tsN
  rw [Nat.mod_mod]
theorem opN_mod (h b y c : Nat) (st : List Bool) : opN (h % 24) b y c st = opN h b y c st := by
  match c, st with
  | 0, [] => rfl
  | 0, a :: r => rfl
  | 1, [] => rfl
  | 1, [a] => rfl
  | 1, b :: a :: r => rfl
  | 2, [] => rfl
  | 2, [a] => rfl
  | 2, b :: a :: r => rfl
  | n + 3, r => simp only [opN, tsN_mod]
theorem runN_mod (h b y : Nat) (cs : List Nat) (st : List Bool) : runN (h % 24) b y cs st = runN h b y cs st := by
  induction cs generalizing st with
  | nil => rfl
  | cons c cs ih =>
    simp only [runN, opN_mod]
    congr 1
    funext s
    exact ih s
theorem d1N_mod (w c : Nat → Nat) (cs : Nat → List Nat) (N b k h : Nat) : d1N w c cs N b k (h % 24) = d1N w c cs N b k h := by
  unfold d1N cdN
  simp only [runN_mod]
section
variable {Z : Nat → Nat} {x n M nr nc NW i q N W cy sd : Nat} {K : Sh} {I I1 : Im} {J : Jm} {R R1 : Rf} {w c d le la hr : Nat → Nat} {cs : Nat → List Nat} {d1 : Nat → Nat → Nat → Nat}
theorem c_drunkIn (h : WV q K I R W hr cy sd d1) {k b hh : Nat} (hk : k < 6) (h1 : 1 ≤ b) (h9 : b ≤ 9) (hb : hh ≤ 1000000) : f_X9_drunkIn K I R q (nI k) (nI hh) (nI b) = some (nI (d1 b k (hh % 24))) := by
  obtain ⟨hS, -, -, hh3, -, -, -, -, hd, dr, g1, g2, g3⟩ := h
  have hm : hh % 24 < 24 := Nat.mod_lt _ (by decide)
  have c1 := g3 k b (hh % 24) hk h1 h9 (by omega)
  have c2 := g3 k b (hh % 24 + 1) hk h1 h9 (by omega)
  simp only [wayD, Nat.zero_add, Nat.mod_mod] at c2
  have b1 := wayD_le (f := d1 b k) (B := 1188) (fun j _ => hd b k j) 0 (hh % 24)
  have b2 := hd b k (hh % 24)
  generalize hA : d1 b k (hh % 24) = A at b2 c2 ⊢
  generalize hB : wayD (d1 b k) 0 (hh % 24) = B at b1 c1 c2
  have hk9 : k * 9 + b - 1 ≤ 53 := by omega
  have i1 : (k * 9 + b - 1) * 33 + hh % 24 < 1782 := by omega
  have i2 : (k * 9 + b - 1) * 33 + (hh % 24 + 1) < 1782 := by omega
  have l1 : ldI K I (some dr) (nI ((k * 9 + b - 1) * 33 + hh % 24)) = some (nI B) := by rw [← c1]; exact ldI_ok (by rw [g2]) (by rw [g2]; exact i1) (by rw [g2]; omega)
  have l2 : ldI K I (some dr) (nI ((k * 9 + b - 1) * 33 + (hh % 24 + 1))) = some (nI (B + A)) := by rw [← c2]; exact ldI_ok (by rw [g2]) (by rw [g2]; exact i2) (by rw [g2]; omega)
  have l3 : alen K (some dr) = some (nI 1782) := by
    have := alen_ok (K := K) (a := dr) (by rw [g2]; omega) (by rw [g2]; omega)
    rw [g2] at this
    exact this
  unfold f_X9_drunkIn f_X9_sumsOf
  rw [g1]
  have hne : ¬ (some dr = none) := by simp
  simp (disch := omega) only [L0, L1, L2, L3, L4, L5, L6, L7, L8, L9, L10, L11, L12, L13, L14, L15, L16, L17, L18, L19, L20, L21, L22, L23, L24, L25, L26, L27, L28, L29, L30, L31, L32, L33, L34, L35, L36, L37, L38, L39, L40, L48, L57, L59, L60, L62, L96, L97, L98, L99, L100, L104, L110, L119, L124, L500, L999, L1000, L2000, L3000, nI_add, pk_mul, pk_sub, nI_leI, nI_ltI, nI_eq, obs, u2_eq, u2_row, u2_ne, if_pos, if_neg, if_true, if_false, eq_self, irem_nI, hne, l1, l2, l3, Nat.add_assoc, Nat.add_sub_cancel_left]
theorem k_holds (h : Rel Z x n M K I J R) (v1 v2 : Int32) : ∃ r I2, f_X11_holds K I R x v1 v2 = some r ∧ f_X12_holds K R (x + 62) v1 v2 I = some (r, I2) ∧ Rel Z x n M K I2 J R := by
  have h0 := h
  obtain ⟨hC, hS, hn, hMb, hZ, nr, nc, NW, hG⟩ := h
  obtain ⟨hnum, hru, hca, hnow, -⟩ := RelG_iff.mp hG
  have e1' : ¬ (nI 1 = 0) := by decide
  have e0' : nI 0 = 0 := rfl
  have S11 := cS11 hC
  have S12' : S12 (x + 62) K R := hS
  have o7 : ob K 7 (R x 7) = some (x + 8) := o11_7 S11
  unfold f_X11_holds f_X12_holds
  rcases rg v1 0 4 (by omega) (by omega) with ⟨m, p1, p2, p3, p4, p5⟩ | ⟨p4, p5, -⟩
  · have p4 : f_X11_within v1 0 4 = some (nI 1) := p4
    have p5 : ∀ o, f_X12_in o v1 0 4 = some (nI 1) := p5
    rcases hour_at v2 with ⟨g, s1, s2, s3, s4⟩ | ⟨s3, s4⟩
    · rcases hnow.1 with ⟨t1, t2⟩ | ⟨i, q, N, w, c, d, cs, le, la, t1, t2, t3⟩
      · refine ⟨-3, I, ?_, ?_, h0⟩
        · rw [p4, obs, if_neg e1', s3, obs, if_neg e1', o7, obs, if_pos t2]
        · rw [p5, obs, if_neg e1', s4, obs, if_neg e1', t1, if_neg no_neg1]
      · have hi5 : i < 5 := by have := hnum.2.2.1; omega
        have nn : ¬ (R (x + 8) 0 = none) := by rw [t3.1]; simp
        have hV := t3.2.1.2.2.2.1
        have o9 : ob K 10 (R (x + 8) 0) = some q := by rw [t3.1]; exact ob9 hV.1
        have o1 : ob K 11 (R (x + 8) 1) = some (x + 9) := o6_1 (cS6n hC)
        have hW5 := wlN_le w N
        have hW := t3.2.1.1
        obtain ⟨I2, f1, f2, f3⟩ := lay_R (P := fun I1 => FM (x + 62) layS [21] I I1 ∧ LayG (x + 62) (wlN w N) M I1 (wlV w c N) (wlV w d N) (wyV w c N) le la) S12' hi5 t1 t3 (fun I1 a b => ⟨a, b⟩)
        have Q2 : QF x I I2 := QF.fm f2 (by decide) (by decide)
        have hrel := h0.qf Q2 QR.refl hC hS
        by_cases cw : wlN w N ≤ m
        · refine ⟨-1, I2, ?_, ?_, hrel⟩
          · rw [p4, obs, if_neg e1', s3, obs, if_neg e1', o7, obs, if_neg nn, o9, obs, hV.2.1, p1, if_pos (by rw [nI_leI (by omega) (by omega)]; exact cw)]
          · rw [p5, obs, if_neg e1', s4, obs, if_neg e1', t1, if_pos (yes_nI (by omega)), f1, obs, f3.1, p1, if_pos (by rw [nI_leI (by omega) (by omega)]; exact cw)]
        · obtain ⟨z1, z2, z3, z4, z5, z6, z7, z8⟩ := f3.2.2.1 m (by omega)
          obtain ⟨y1, y2, y3, y4, y5, y6, y7, y8⟩ := t3.2.2.2.2 m (by omega)
          refine ⟨nI (heldN (wlV w c N) (wlV w d N) le la m g), I2, ?_, ?_, hrel⟩
          · rw [p4, obs, if_neg e1', s3, obs, if_neg e1', o7, obs, if_neg nn, o9, obs, hV.2.1, p1, if_neg (by rw [nI_leI (by omega) (by omega)]; exact cw), o1, obs, s1, c_held (cS10n hC) (by omega) y1 y2 y3 y6 z2 z4 z6 (by omega) (by omega)]
            rfl
          · rw [p5, obs, if_neg e1', s4, obs, if_neg e1', t1, if_pos (yes_nI (by omega)), f1, obs, f3.1, p1, if_neg (by rw [nI_leI (by omega) (by omega)]; exact cw), s1, m_heldBy S12' (by omega) z1 z3 z5 z7 z2 z4 z6 (by omega) (by omega)]
            rfl
    · refine ⟨-2, I, ?_, ?_, h0⟩
      · rw [p4, obs, if_neg e1', s3, obs, if_pos e0']
      · rw [p5, obs, if_neg e1', s4, obs, if_pos e0']
  · have p4 : f_X11_within v1 0 4 = some (nI 0) := p4
    have p5 : ∀ o, f_X12_in o v1 0 4 = some (nI 0) := p5
    refine ⟨-1, I, ?_, ?_, h0⟩
    · rw [p4, obs, if_pos e0']
    · rw [p5, obs, if_pos e0']
theorem k_drinks (h : Rel Z x n M K I J R) (v1 v2 v3 : Int32) : ∃ r I2, f_X11_drinks K I R x v1 v2 v3 = some r ∧ f_X12_drinks K R (x + 62) v1 v2 v3 I = some (r, I2) ∧ Rel Z x n M K I2 J R := by
  have h0 := h
  obtain ⟨hC, hS, hn, hMb, hZ, nr, nc, NW, hG⟩ := h
  obtain ⟨hnum, hru, hca, hnow, -⟩ := RelG_iff.mp hG
  have e1' : ¬ (nI 1 = 0) := by decide
  have e0' : nI 0 = 0 := rfl
  have S11 := cS11 hC
  have S12' : S12 (x + 62) K R := hS
  have o7 : ob K 7 (R x 7) = some (x + 8) := o11_7 S11
  unfold f_X11_drinks f_X12_drinks
  rcases rg v1 0 5 (by omega) (by omega) with ⟨m, p1, p2, p3, p4, p5⟩ | ⟨p4, p5, -⟩
  · have p4 : f_X11_within v1 0 5 = some (nI 1) := p4
    have p5 : ∀ o, f_X12_in o v1 0 5 = some (nI 1) := p5
    rcases hour_at v2 with ⟨g, s1, s2, s3, s4⟩ | ⟨s3, s4⟩
    · rcases rg v3 1 9 (by omega) (by omega) with ⟨b, b1, b2, b3, b4, b5⟩ | ⟨b4, b5, -⟩
      · have b4 : f_X11_within v3 1 9 = some (nI 1) := b4
        have b5 : ∀ o, f_X12_in o v3 1 9 = some (nI 1) := b5
        rcases hnow.1 with ⟨t1, t2⟩ | ⟨i, q, N, w, c, d, cs, le, la, t1, t2, t3⟩
        · refine ⟨-3, I, ?_, ?_, h0⟩
          · rw [p4, obs, if_neg e1', s3, obs, if_neg e1', b4, obs, if_neg e1', o7, obs, if_pos t2]
          · rw [p5, obs, if_neg e1', s4, obs, if_neg e1', b5, obs, if_neg e1', t1, if_neg no_neg1]
        · have hi5 : i < 5 := by have := hnum.2.2.1; omega
          have nn : ¬ (R (x + 8) 0 = none) := by rw [t3.1]; simp
          have hV := t3.2.1.2.2.2.1
          have o9 : ob K 10 (R (x + 8) 0) = some q := by rw [t3.1]; exact ob9 hV.1
          have hW5 := wlN_le w N
          have hW := t3.2.1.1
          obtain ⟨I2, f1, f2, f3⟩ := lay_R (P := fun I1 => FM (x + 62) layS [21] I I1 ∧ LayG (x + 62) (wlN w N) M I1 (wlV w c N) (wlV w d N) (wyV w c N) le la) S12' hi5 t1 t3 (fun I1 a b => ⟨a, b⟩)
          have Q2 : QF x I I2 := QF.fm f2 (by decide) (by decide)
          by_cases cw : wlN w N < m
          · refine ⟨-1, I2, ?_, ?_, h0.qf Q2 QR.refl hC hS⟩
            · rw [p4, obs, if_neg e1', s3, obs, if_neg e1', b4, obs, if_neg e1', o7, obs, if_neg nn, o9, obs, hV.2.1, p1, if_pos (by rw [nI_ltI (by omega) (by omega)]; exact cw)]
            · rw [p5, obs, if_neg e1', s4, obs, if_neg e1', b5, obs, if_neg e1', t1, if_pos (yes_nI (by omega)), f1, obs, f3.1, p1, if_pos (by rw [nI_ltI (by omega) (by omega)]; exact cw)]
          · have t3' : WasteR x i q N w c d cs K I2 R := t3.2.1.qf Q2 QR.refl
            have ti2 : I2 (x + 62) 1 = nI i := by rw [f2.fld (by decide) (by decide)]; exact t1
            obtain ⟨I3, u1, u2'⟩ := m_drinksOf S12' (hour := g) (b := b) (y := m) hi5 (by omega) (by omega) (by omega) t3'.1 t3'.2.1 ti2
            have Q3 : QF x I I3 := Q2.trans (QF.fm u2' (by decide) (by decide))
            refine ⟨nI (d1N w c cs N b m (g % 24)), I3, ?_, ?_, h0.qf Q3 QR.refl hC hS⟩
            · rw [p4, obs, if_neg e1', s3, obs, if_neg e1', b4, obs, if_neg e1', o7, obs, if_neg nn, o9, obs, hV.2.1, p1, if_neg (by rw [nI_ltI (by omega) (by omega)]; exact cw), s1, b1, c_drunkIn hV (by omega) b2 b3 (by omega)]
              rfl
            · rw [p5, obs, if_neg e1', s4, obs, if_neg e1', b5, obs, if_neg e1', t1, if_pos (yes_nI (by omega)), f1, obs, f3.1, p1, if_neg (by rw [nI_ltI (by omega) (by omega)]; exact cw), s1, b1, u1, obs, d1N_mod]
              rfl
      · have b4 : f_X11_within v3 1 9 = some (nI 0) := b4
        have b5 : ∀ o, f_X12_in o v3 1 9 = some (nI 0) := b5
        refine ⟨-2, I, ?_, ?_, h0⟩
        · rw [p4, obs, if_neg e1', s3, obs, if_neg e1', b4, obs, if_pos e0']
        · rw [p5, obs, if_neg e1', s4, obs, if_neg e1', b5, obs, if_pos e0']
    · refine ⟨-2, I, ?_, ?_, h0⟩
      · rw [p4, obs, if_neg e1', s3, obs, if_pos e0']
      · rw [p5, obs, if_neg e1', s4, obs, if_pos e0']
  · have p4 : f_X11_within v1 0 5 = some (nI 0) := p4
    have p5 : ∀ o, f_X12_in o v1 0 5 = some (nI 0) := p5
    refine ⟨-1, I, ?_, ?_, h0⟩
    · rw [p4, obs, if_pos e0']
    · rw [p5, obs, if_pos e0']
end
