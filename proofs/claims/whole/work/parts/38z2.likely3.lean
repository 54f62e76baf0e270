section
variable {Z : Nat → Nat} {x n M nr nc NW i q N : Nat} {K : Sh} {I I1 : Im} {J : Jm} {R R1 : Rf} {w c d le la od : Nat → Nat} {cs : Nat → List Nat}
set_option maxHeartbeats 1000000 in
theorem m_lik70 {a b st r ra kd vv rn k0 part : Nat} {rwr : Nat → Nat} {rwD : Nat → Nat → Nat} {I0 : Im} {P : Int64 × Im → Prop} (hS : S12 (x + 62) K R) (hi : i < 5) (ht : I0 (x + 62) 1 = nI i) (h : NowR x (x + 8) i q n M N (x + 73) (x + 74) w c d cs le la K I0 R) (hc : CarR x nr k0 n a b st r ra K I0 R) (hr : RuleR x r n ra kd vv rn rwr K I0 R) (hnr : nr ≤ 10) (hk0 : k0 < 6) (hM : M ≤ 800000) (hM7 : 100 ≤ M) (hD : DryP w c d cs N b st kd rwr le la rwD) (hod : ∀ k, k < 5 → od k ≤ 10 ∧ I0 (x + 75) k = nI (od k)) {ov : Nat → Option Nat} (hov : ∀ dr, ov dr = (dryT w c d cs N b st kd vv (rwD dr) le la dr).1.1) (hp : part ≤ 1)
    (kk : ∀ I1, FM (x + 62) mS mF I0 I1 → P (lkR (wlN w N) (lkN ov (fun dr => wgN od dr (wlN w N)) (2 ^ wlN w N)) part, I1)) :
    ∀ (m dr f : Nat) (I : Im), dr + m = 2 ^ wlN w N → m < f → FM (x + 62) mS mF I0 I →
    Ok (f_X12_likely_70 K R (x + 62) f (nI k0) (nI part) (nI (wlN w N)) (lI (lkN ov (fun dr => wgN od dr (wlN w N)) dr)) (lI (10 ^ wlN w N)) (nI dr) I) P := by
  have h5 := wlN_le w N
  obtain ⟨ten1, ten2⟩ := tenW h5
  have two := twoW h5
  have hwt : ∀ dr, wgN od dr (wlN w N) ≤ 100000 := fun dr => Nat.le_trans (wgN_b (fun k hk => (hod k hk).1) _ h5) ten1
  have z64 : (0 : Int64) = lI 0 := rfl
  intro m
  induction m with
  | zero =>
    intro dr f I hd hf hI
    obtain ⟨f, rfl⟩ : ∃ f', f = f' + 1 := ⟨f - 1, by omega⟩
    have : dr = 2 ^ wlN w N := by omega
    subst this
    have g := kk I hI
    have hlk := lkN_b (ov := ov) hwt (2 ^ wlN w N)
    generalize hov' : lkN ov (fun dr => wgN od dr (wlN w N)) (2 ^ wlN w N) = over at g hlk ⊢
    have hg := m_gcd (o := x + 62) 17 over (10 ^ wlN w N) FU (by omega) (by omega) (by omega) (FU_lt (by omega))
    have hg1 : 1 ≤ Nat.gcd (10 ^ wlN w N) over := Nat.gcd_pos_of_pos_left _ (by omega)
    have hg2 : Nat.gcd (10 ^ wlN w N) over ≤ 10 ^ wlN w N := Nat.gcd_le_left _ (by omega)
    unfold lkR at g
    unfold f_X12_likely_70 f_X12_divisor
    rw [ishl_nI h5, if_pos (Int32.le_refl _), hg, obs]
    generalize hG : Nat.gcd (10 ^ wlN w N) over = G at g hg1 hg2 ⊢
    have nG : ¬ (lI G = 0) := by rw [z64, lI_eq (by omega) (by omega)]; omega
    rw [L0]
    by_cases c : part = 0
    · subst c
      rw [if_pos rfl] at g
      rw [if_pos rfl, if_neg nG, obs, lI_div (by omega) (by omega)]
      exact Ok.ret g
    · rw [if_neg c] at g
      rw [if_neg (by rw [nI_eq (by omega) (by omega)]; exact c), if_neg nG, obs, lI_div (by omega) (by omega)]
      exact Ok.ret g
  | succ m ih =>
    intro dr f I hd hf hI
    obtain ⟨f, rfl⟩ : ∃ f', f = f' + 1 := ⟨f - 1, by omega⟩
    have hQ : QF x I0 I := QF.fm hI (by decide) (by decide)
    have hn := h.qf (by omega) ⟨by omega, by decide⟩ ⟨by omega, by decide⟩ hQ (QR.refl (R := R))
    unfold f_X12_likely_70
    rw [ishl_nI h5, if_neg (by rw [nI_leI (by omega) (by omega)]; omega)]
    refine Ok.bind (lay_R (P := fun I2 => FM (x + 62) layS [21] I I2 ∧ LayG (x + 62) (wlN w N) M I2 (wlV w c N) (wlV w d N) (wyV w c N) le la) hS hi (by rw [hQ.f (k := 1) (by decide)]; exact ht) hn (fun I2 F L => ⟨F, L⟩)) (fun I2 hI2 => ?_)
    obtain ⟨F, L⟩ := hI2
    have F1 := hI.trans (F.mono (S' := mS) (F' := mF) (by decide) (by decide))
    have nx := fun I3 v (e : lkN ov (fun dr => wgN od dr (wlN w N)) (dr + 1) = v) => e ▸ ih (dr + 1) f I3 (by omega) (by omega)
    have z1 : (1 : Int64) = lI (wgN od dr 0) := rfl
    rw [L0, z1]
    refine m_lik88 (od := od) hS hi ht h hc hr hnr hk0 hM hM7 (by omega : dr < 32) (hD dr) hod (fun I3 G => ?_) (wlN w N) 0 FU I2 (by omega) (FU_lt (by omega)) F1 L.1 (fun j hj => ?_) (fun j hj => (L.2.2.2 j hj).1)
    · refine nx I3 _ ?_ G
      simp only [lkN]
      rw [hov dr]
      rfl
    · obtain ⟨y1, y2, y3, y4, y5, y6, y7, y8⟩ := L.2.2.1 j hj
      exact ⟨y1, y3, y5, y7⟩
theorem m_lik47 {k0 part W : Nat} {I0 : Im} {P : Int64 × Im → Prop} (h5 : W ≤ 5) (kk : Ok (f_X12_likely_70 K R (x + 62) FU (nI k0) (nI part) (nI W) (lI 0) (lI (10 ^ W)) (nI 0) I0) P) : ∀ (m k f : Nat), k + m = W → m < f → Ok (f_X12_likely_47 K R (x + 62) f (nI k0) (nI part) (nI W) (lI 0) (lI (10 ^ k)) (nI k) I0) P := by
  intro m
  induction m with
  | zero =>
    intro k f hk hf
    obtain ⟨f, rfl⟩ : ∃ f', f = f' + 1 := ⟨f - 1, by omega⟩
    have : k = W := by omega
    subst this
    unfold f_X12_likely_47
    rw [if_pos (Int32.le_refl _), L0]
    exact kk
  | succ m ih =>
    intro k f hk hf
    obtain ⟨f, rfl⟩ : ∃ f', f = f' + 1 := ⟨f - 1, by omega⟩
    have g := ih (k + 1) f (by omega) (by omega)
    unfold f_X12_likely_47
    rw [if_neg (by rw [nI_leI (by omega) (by omega)]; omega), show (10 : Int64) = lI 10 from rfl, lI_mul, L1, nI_add, ← Nat.pow_succ]
    exact g
set_option maxHeartbeats 1000000 in
theorem k_likely (h : Rel Z x n M K I J R) (hM7 : 100 ≤ M) (v1 v2 : Int32) : ∃ r I1 R1 I2, f_X11_likely K x v1 v2 I R = some (r, I1, R1) ∧ f_X12_likely K R1 (x + 62) v1 v2 I1 = some (r, I2) ∧ Rel Z x n M K I2 J R1 := by
  have h0 := h
  obtain ⟨hC, hS, hn, hMb, hZ, nr, nc, NW, hG⟩ := h
  have hG0 := hG
  obtain ⟨hnum, hru, hca, hnow, -⟩ := RelG_iff.mp hG
  have e1' : ¬ (nI 1 = 0) := by decide
  have e0' : nI 0 = 0 := rfl
  have S11 := cS11 hC
  have o7 : ob K 7 (R x 7) = some (x + 8) := o11_7 S11
  have hnr := hnum.1
  have hnc := hnum.2.1
  unfold f_X11_likely f_X12_likely
  rcases car_at hC hG0 v1 with ⟨k, a, b, st, r, ra, q1, q2, q3, q4, q5⟩ | ⟨q4, q5⟩
  · rcases rg v2 0 1 (by omega) (by omega) with ⟨part, p1, p2, p3, p4, p5⟩ | ⟨p4, p5, -⟩
    · have p4 : f_X11_within v2 0 1 = some (nI 1) := p4
      have p5 : ∀ o, f_X12_in o v2 0 1 = some (nI 1) := p5
      rcases hnow.1 with ⟨t1, t2⟩ | ⟨i, q, N, w, c, d, cs, le, la, t1, t2, t3⟩
      · refine ⟨-9223372036854775808, I, R, I, ?_, ?_, h0⟩
        · rw [q4, obs, if_neg (by simp), p4, obs, if_neg e1', o7, obs, if_pos t2]
        · rw [q5, obs, if_neg e1', p5, obs, if_neg e1', t1, if_neg no_neg1]
      · have hi5 : i < 5 := by have := hnum.2.2.1; omega
        have nn : ¬ (R (x + 8) 0 = none) := by rw [t3.1]; simp
        obtain ⟨ra', kd, vv, rn, rwr, hrule⟩ := hru r q3.2.2.2.2.2.2.2.2.2.1
        have : ra' = ra := by have := hrule.1.symm.trans q3.2.2.2.2.2.2.2.2.2.2.2.1; exact Option.some.inj this
        subst this
        obtain ⟨od, hod⟩ : ∃ od : Nat → Nat, ∀ k, k < 5 → od k ≤ 10 ∧ I (x + 14) k = nI (od k) ∧ I (x + 75) k = nI (od k) := by
          have hh : ∀ k, ∃ m, k < 5 → m ≤ 10 ∧ I (x + 14) k = nI m ∧ I (x + 75) k = nI m := fun k => by
            by_cases c : k < 5
            · obtain ⟨m, z⟩ := hnow.2.1 k c
              exact ⟨m, fun _ => z⟩
            · exact ⟨0, fun z => absurd z c⟩
          exact Classical.axiomOfChoice hh
        obtain ⟨rwD, hD⟩ := DryP.ex (x := x) (d := d) (cs := cs) (le := le) (la := la) (b := b) (st := st) (kd := kd) q3.2.2.2.2.2.2.1 t3.2.1.1 (fun k => (hrule.2.2.2.2.2.2.1 k).1)
        obtain ⟨ov, hov⟩ : ∃ ov : Nat → Option Nat, ∀ dr, ov dr = (dryT w c d cs N b st kd vv (rwD dr) le la dr).1.1 := ⟨_, fun _ => rfl⟩
        have h5 := wlN_le w N
        have two := twoW h5
        obtain ⟨⟨r1, I1, R1⟩, g0, g1, g2, g3, g4⟩ := c_lik42 (part := part) (a := a) hC t3 (c_lik73 (od := od) (P := fun s => s.1 = lkR (wlN w N) (lkN ov (fun dr => wgN od dr (wlN w N)) (2 ^ wlN w N)) part ∧ (∀ z, z < x + 29 ∨ x + 50 ≤ z → s.2.1 z = I z) ∧ (∀ z, z < x + 29 ∨ x + 50 ≤ z → s.2.2 z = R z) ∧ CSH x K s.2.2) p3 t3 q3 hrule hMb hM7 hD (fun k hk => ⟨(hod k hk).1, (hod k hk).2.1⟩) hov (fun I1 R1 a b c => ⟨rfl, a, b, c⟩) (2 ^ wlN w N) 0 FU I R (by omega) (FU_lt (by omega)) (fun _ _ => rfl) (fun _ _ => rfl) hC) (wlN w N) 0 FU (by omega) (FU_lt (by omega))
        have g1 : r1 = _ := g1
        have g2 : ∀ z, z < x + 29 ∨ x + 50 ≤ z → I1 z = I z := g2
        have g3 : ∀ z, z < x + 29 ∨ x + 50 ≤ z → R1 z = R z := g3
        have Q1 : QF x I I1 := QF.cls g2
        have hS1 : MSH (x + 62) K R1 := hS.congr (fun _ _ => rfl) (g3 _ (by omega))
        have t3' := t3.qf (by omega) ⟨by omega, by decide⟩ ⟨by omega, by decide⟩ Q1 g3
        have ti1 : I1 (x + 62) 1 = nI i := by rw [Q1.f (k := 1) (by decide)]; exact t1
        obtain ⟨I0, k0, F0, L0'⟩ := lay_R (P := fun I2 => FM (x + 62) layS [21] I1 I2 ∧ LayG (x + 62) (wlN w N) M I2 (wlV w c N) (wlV w d N) (wyV w c N) le la) hS1 hi5 ti1 t3' (fun I2 F L => ⟨F, L⟩)
        obtain ⟨⟨r2, I2⟩, k1, k2, k3⟩ := m_lik47 (k0 := k) (part := part) h5 (m_lik70 (od := od) (P := fun s => s.1 = lkR (wlN w N) (lkN ov (fun dr => wgN od dr (wlN w N)) (2 ^ wlN w N)) part ∧ FM (x + 62) mS mF I1 s.2) hS1 hi5 ti1 t3' (q3.qf Q1 g3) (hrule.qf Q1 g3) hnr (by omega : k < 6) hMb hM7 hD (fun k hk => ⟨(hod k hk).1, by rw [Q1.m (j := 75) (by omega) (by decide)]; exact (hod k hk).2.2⟩) hov p3 (fun I2 F => ⟨rfl, F⟩) (2 ^ wlN w N) 0 FU I0 (by omega) (FU_lt (by omega)) (F0.mono (by decide) (by decide))) (wlN w N) 0 FU (by omega) (FU_lt (by omega))
        have k2 : r2 = _ := k2
        have k3 : FM (x + 62) mS mF I1 I2 := k3
        have Q2 : QF x I I2 := Q1.trans (QF.fm k3 (by decide) (by decide))
        refine ⟨r1, I1, R1, I2, ?_, ?_, h0.qf Q2 g3 g4 hS1⟩
        · rw [q4, obs, if_neg (by simp), p4, obs, if_neg e1', o7, obs, if_neg nn, p1]
          exact g0
        · rw [isCar_eq (Q1.f (k := 28) (by decide)), q5, obs, if_neg e1', p5, obs, if_neg e1', ti1, if_pos (yes_nI (by omega)), k0, obs, L0'.1, p1, q1]
          rw [g1, ← k2]
          exact k1
    · have p4 : f_X11_within v2 0 1 = some (nI 0) := p4
      have p5 : ∀ o, f_X12_in o v2 0 1 = some (nI 0) := p5
      refine ⟨-9223372036854775808, I, R, I, ?_, ?_, h0⟩
      · rw [q4, obs, if_neg (by simp), p4, obs, if_pos e0']
      · rw [q5, obs, if_neg e1', p5, obs, if_pos e0']
  · refine ⟨-9223372036854775808, I, R, I, ?_, ?_, h0⟩
    · rw [q4, obs, if_pos rfl]
    · rw [q5, obs, if_pos e0']
end
