/-- DIG place by place -/
abbrev Dg : Type := Option (Nat × Nat)
def dgS (ov : Nat → Nat → Option Nat) (way z : Nat) (acc : Dg) : Dg := match ov way z with
  | none => acc
  | some t => match acc with
    | none => some (t, 100 * way + z)
    | some a => if t < a.1 then some (t, 100 * way + z) else some a
def dgI (ov : Nat → Nat → Option Nat) (hr : Nat → Nat) (way : Nat) (acc : Dg) : Dg := lpN (dgS ov way) (hr way - 1) 1 acc
def aT (acc : Dg) : Int32 := oI (acc.map (·.1))
def aP (acc : Dg) : Int32 := oI (acc.map (·.2))
def DgB (acc : Dg) : Prop := ∀ a, acc = some a → a.1 ≤ 900000
theorem dgS_b {ov : Nat → Nat → Option Nat} {way z : Nat} {acc : Dg} (h : DgB acc) (ho : ∀ t, ov way z = some t → t ≤ 900000) : DgB (dgS ov way z acc) := by
  intro a ha
  unfold dgS at ha
  cases q : ov way z with
  | none => rw [q] at ha; exact h a ha
  | some t =>
    rw [q] at ha
    have := ho t q
    cases acc with
    | none => cases ha; exact this
    | some b =>
      have ha : (if t < b.1 then some (t, 100 * way + z) else some b) = some a := ha
      split at ha
      · cases ha; exact this
      · cases ha; exact h _ rfl
section
variable {Z : Nat → Nat} {x n M nr nc NW i q N : Nat} {K : Sh} {I I1 : Im} {J : Jm} {R R1 : Rf} {w c d le la : Nat → Nat} {cs : Nat → List Nat}
/-- what is known of the best hours with a well more -/
def OvP (w c d : Nat → Nat) (cs : Nat → List Nat) (N b st f0 g0 : Nat) (ov : Nat → Nat → Option Nat) : Prop := ∀ way z, bsT (envG w c cs N b (fuD way f0 (wlV w c N) (wlN w N)) (fuD way g0 (wlV w d N) (wlN w N)) (hrP way z (wyV w c N) (wlN w N + 1)) (fuD way f0 (wlV w c N) (wlN w N)) (fun _ => 0)) (wlN w N + 1) st (ov way z)
theorem OvP.ex {b st f0 g0 : Nat} (hb : b ≤ 9) (hW : MW (x + 62) i N w c d I) : ∃ ov, OvP w c d cs N b st f0 g0 ov := by
  have h : ∀ p : Nat × Nat, ∃ t, bsT (envG w c cs N b (fuD p.1 f0 (wlV w c N) (wlN w N)) (fuD p.1 g0 (wlV w d N) (wlN w N)) (hrP p.1 p.2 (wyV w c N) (wlN w N + 1)) (fuD p.1 f0 (wlV w c N) (wlN w N)) (fun _ => 0)) (wlN w N + 1) st t := fun p => bsT_ex (envG_rm hb hW) _ _
  obtain ⟨f, hf⟩ := Classical.axiomOfChoice h
  exact ⟨fun way z => f (way, z), fun way z => hf (way, z)⟩
theorem ov_b {b st f0 g0 way z : Nat} {ov : Nat → Nat → Option Nat} (ho : OvP w c d cs N b st f0 g0 ov) (hb : b ≤ 9) (hW : MW (x + 62) i N w c d I) (hw4 : wlN w N < 5) (hway : way ≤ wlN w N) (hz : 1 ≤ z) (hzh : z < wyV w c N way) (hf : f0 ≤ 99) (hst : st ≤ 99) : ∀ t, ov way z = some t → t ≤ 900000 := by
  have hcb : ∀ n, n < N → c n ≤ 99 := fun n hn => (hW.2.2.2 n hn).2.2.2.1
  have hyb : ∀ k, 1 ≤ wyV w c N k ∧ wyV w c N k ≤ 9 := fun k => wyV_b (fun m hm hw => (hW.2.2.2 m hm).2.2.2.2.1 hw) k
  have e := best_over (v := 0) (rw := bsR (envG w c cs N b (fuD way f0 (wlV w c N) (wlN w N)) (fuD way g0 (wlV w d N) (wlN w N)) (hrP way z (wyV w c N) (wlN w N + 1)) (fuD way f0 (wlV w c N) (wlN w N)) (fun _ => 0)) (wlN w N + 1) st (ov way z)) (envG_rm (le := fun _ => 0) (la := fun _ => 0) (fu := fun _ => 0) (gi := fun _ => 0) (hr := fun _ => 0) (cs := cs) hb hW) (by omega) (ho way z) (fun _ => rfl) (by omega)
  have tb := trN_b (M := 99) (W := wlN w N + 1) (cost := fun k h => wayD (fun j => b * d1N w c cs N b k j) h (hrP way z (wyV w c N) (wlN w N + 1) k)) (hr := hrP way z (wyV w c N) (wlN w N + 1)) (rw := bsR (envG w c cs N b (fuD way f0 (wlV w c N) (wlN w N)) (fuD way g0 (wlV w d N) (wlN w N)) (hrP way z (wyV w c N) (wlN w N + 1)) (fuD way f0 (wlV w c N) (wlN w N)) (fun _ => 0)) (wlN w N + 1) st (ov way z)) (fu := fuD way f0 (wlV w c N) (wlN w N)) (gi := fuD way g0 (wlV w d N) (wlN w N)) (sd := b * laV w c 5 0 N) (rm := b * laV w c 3 10 N) (kind := 5) (v := 0) (fun k hk => (hrP_b hway hw4 hz hzh (fun k _ => hyb k) k (by omega)).2) (by omega) (fun _ => bsR_le) (fun k _ => fuD_le hf (fun k => wlV_le (fun n hn _ => hcb n hn) k) k) 6 0 st (b * laV w c 3 10 N) (fuD way f0 (wlV w c N) (wlN w N)) (fun _ => 0) (fun _ => none) (fun _ => none) (by omega) (Nat.zero_le _) (fun j _ => ⟨fuD_le hf (fun k => wlV_le (fun n hn _ => hcb n hn) k) j, Nat.zero_le _⟩) (fun _ _ _ => Nat.zero_le _) (by omega) _ rfl
  intro t ht
  have := tb.1 t (by rw [← ht]; exact e)
  omega
theorem m_layMoreR {way z f0 g0 : Nat} (hM : S12 (x + 62) K R) (hi : i < 5) (ht : I (x + 62) 1 = nI i) (hw : WasteR x i q N w c d cs K I R) (hl : ∀ k, k < wlN w N → I (x + 73) k = nI (le k) ∧ le k ≤ 99 ∧ I (x + 74) k = nI (la k) ∧ la k ≤ M) (hw4 : wlN w N < 5) (hway : way ≤ wlN w N) (hz : 1 ≤ z) (hzh : z < wyV w c N way) (hf : f0 ≤ 99) (hg : g0 ≤ 99) :
    Ok (f_X12_layMore K R (x + 62) (nI way) (nI z) (nI f0) (nI g0) I) (fun I1 => FM (x + 62) layS [21] I I1 ∧ LayG (x + 62) (wlN w N + 1) M I1 (fuD way f0 (wlV w c N) (wlN w N)) (fuD way g0 (wlV w d N) (wlN w N)) (hrP way z (wyV w c N) (wlN w N + 1)) (fuD way f0 (wlV w c N) (wlN w N)) (fun _ => 0)) := by
  have hW := hw.1
  have hcb : ∀ n, n < N → c n ≤ 99 := fun n hn => (hW.2.2.2 n hn).2.2.2.1
  have hdb : ∀ k, wlV w d N k ≤ 99 := fun k => wlV_le (fun m hm hw => ((hW.2.2.2 m hm).2.2.2.2.2 hw).2) k
  have hyb : ∀ k, 1 ≤ wyV w c N k ∧ wyV w c N k ≤ 9 := fun k => wyV_b (fun m hm hw => (hW.2.2.2 m hm).2.2.2.2.1 hw) k
  unfold f_X12_layMore
  refine Ok.bind (lay_R2 (P := fun I2 => FM (x + 62) layS [21] I I2 ∧ LayG (x + 62) (wlN w N) M I2 (wlV w c N) (wlV w d N) (wyV w c N) le la) hM hi ht hw hl (fun I2 F L => ⟨F, L⟩)) (fun I2 hI2 => ?_)
  obtain ⟨F, L⟩ := hI2
  obtain ⟨l1, l2, l3, l4⟩ := L
  rw [l1]
  refine m_lm10 (fu := wlV w c N) (gi := wlV w d N) (hr := wyV w c N) hM hw4 hway hz hzh (fun k _ => (hyb k).2) (wlN w N - way) (wlN w N) FU I2 (by omega) (Nat.le_refl _) (FU_lt (by omega)) l1 (fun j => ⟨fun hj => by omega, fun hj => ⟨(l3 j hj.2).1, (l3 j hj.2).2.2.1⟩⟩) (fun j hj => (l4 j hj).1) (fun I1 G g1 g2 g3 => ⟨F.trans (G.mono (by decide) (by decide)), g1, by omega, fun k hk => ?_, fun k hk => ?_⟩)
  · obtain ⟨y1, y2, y3, y4⟩ := g2 k hk
    have e1 : fuD way f0 (wlV w c N) (wlN w N) k = insN way f0 (wlV w c N) k := by unfold fuD; rw [if_pos hk]
    have e2 : fuD way g0 (wlV w d N) (wlN w N) k = insN way g0 (wlV w d N) k := by unfold fuD; rw [if_pos hk]
    have b1 := fuD_le (way := way) (a := f0) (fu := wlV w c N) (W := wlN w N) hf (fun k => wlV_le (fun n hn _ => hcb n hn) k) k
    have b2 := fuD_le (way := way) (a := g0) (fu := wlV w d N) (W := wlN w N) hg hdb k
    exact ⟨by rw [e1]; exact y1, b1, by rw [e2]; exact y2, b2, by rw [e1]; exact y3, b1, y4, Nat.zero_le _⟩
  · refine ⟨?_, (hrP_b hway hw4 hz hzh (fun k _ => hyb k) k (by omega)).2⟩
    have e : hrP way z (wyV w c N) (wlN w N + 1) k = hrD way z (wyV w c N) k := by
      unfold hrP cntP
      rw [if_pos (by split <;> omega)]
    rw [e]
    exact g3 k hk
set_option maxHeartbeats 1000000 in
/-- one place tried by the class -/
theorem c_dig1 {k a b st r ra way z f0 g0 : Nat} {I0 : Im} {R0 : Rf} (hC : CSH x K R) (h : NowR x (x + 8) i q n M N (x + 73) (x + 74) w c d cs le la K I0 R0) (hc : CarR x nr k n a b st r ra K I0 R0) (hM : M ≤ 800000) (hM7 : 100 ≤ M) (hw4 : wlN w N < 5) (hway : way ≤ wlN w N) (hz : 1 ≤ z) (hzh : z < wyV w c N way) (hf : f0 ≤ 99) (hg : g0 ≤ 99) {ov : Nat → Nat → Option Nat} (ho : OvP w c d cs N b st f0 g0 ov) (hI : ∀ z, z < x + 29 ∨ x + 50 ≤ z → I z = I0 z) (hR : ∀ z, z < x + 29 ∨ x + 50 ≤ z → R z = R0 z) :
    Ok (Option.bind (f_X9_becomeDug K (x + 44) (some q) (nI way) (nI z) (nI f0) (nI g0) I R) fun q6 => Option.bind (f_X10_fill K q6.2 (x + 39) (some (x + 44)) q6.1) fun q10 => f_X3_earliest K (x + 32) (some (x + 44)) (some (x + 39)) (some a) q10 q6.2) (fun s => s.1 = oI (ov way z) ∧ (∀ z, z < x + 29 ∨ x + 50 ≤ z → s.2.1 z = I0 z) ∧ (∀ z, z < x + 29 ∨ x + 50 ≤ z → s.2.2 z = R0 z) ∧ CSH x K s.2.2) := by
  have hQ : QF x I0 I := QF.cls hI
  have hw := h.2.1.qf hQ hR
  have hc' := hc.qf hQ hR
  obtain ⟨w1, w2, w3, w4, w5, w6, w7, w8⟩ := hw
  obtain ⟨v1, v2, v3, v4, v5, v6, v7, v8, v9, dr, g1, g2, g3⟩ := w4
  have hcb : ∀ n, n < N → c n ≤ 99 := fun n hn => (w1.2.2.2 n hn).2.2.2.1
  have hdb : ∀ k, wlV w d N k ≤ 99 := fun k => wlV_le (fun m hm hw => ((w1.2.2.2 m hm).2.2.2.2.2 hw).2) k
  have hyb : ∀ k, 1 ≤ wyV w c N k ∧ wyV w c N k ≤ 9 := fun k => wyV_b (fun m hm hw => (w1.2.2.2 m hm).2.2.2.2.1 hw) k
  have hdr := w5 dr g1
  have hS9 := cS9t hC
  refine Ok.bind (c_dug (u := x + 44) (q := q) (fu := wlV w c N) (gi := wlV w d N) (hr := wyV w c N) (P := fun s => s.2 = u2 R (x + 44) 8 (R q 8) ∧ OW (x + 44) [0, 1, 2, 3, 4] I s.1 ∧ WsC (x + 44) s.1 (wlN w N + 1) (wlN w N + 2) (fuD way f0 (wlV w c N) (wlN w N)) (fuD way g0 (wlV w d N) (wlN w N)) (hrP way z (wyV w c N) (wlN w N + 1)) ∧ s.1 (x + 44) 2 = nI (laV w c 3 10 N) ∧ s.1 (x + 44) 4 = nI (laV w c 5 0 N)) hS9 v1 (fun i j hi hj => by omega) hw4 hway hz hzh (fun k _ => hyb k) ⟨v2, fun k hk => w8 k hk, fun k hk => (v4 k hk).1, v5, w6, v7⟩ (fun I1 o1 o2 o3 _ o5 => ⟨rfl, o1, o2, o3, o5⟩)) (fun s hs => ?_)
  obtain ⟨I1, R1⟩ := s
  obtain ⟨s1, s2, s3, s4, s5⟩ := hs
  have s1 : R1 = u2 R (x + 44) 8 (R q 8) := s1
  have s2 : OW (x + 44) [0, 1, 2, 3, 4] I I1 := s2
  have hC1 : CSH x K R1 := by rw [s1]; exact hC.u (i := 44) (k := 8) rfl
  have eR1 : ∀ z, z ≠ x + 44 → R1 z = R z := fun z hz => by rw [s1, u2_row hz]
  have e8 : R1 (x + 44) 8 = some dr := by rw [s1, u2_eq]; exact g1
  have hS91 := cS9t hC1
  have fI1 : ∀ z, z < x + 44 ∨ x + 48 ≤ z → I1 z = I z := fun z hz => s2.1 z (by omega) (by omega) (by omega) (by omega)
  refine Ok.bind (c_fill (P := fun I2 => (∀ z, z < x + 40 ∨ x + 44 ≤ z → I2 z = I1 z) ∧ WlF (x + 39) (wlN w N + 1) M I2 (fuD way f0 (wlV w c N) (wlN w N)) (fuD way g0 (wlV w d N) (wlN w N)) (fuD way f0 (wlV w c N) (wlN w N)) (fun _ => 0)) (cS10t hC1) hS91 (fun i j hi hj => by omega) (fun I2 k1 k2 => ⟨fun z hz => k1 z (by omega) (by omega) (by omega) (by omega), fun j hj => ?_⟩)) (fun I2 hI2 => ?_)
  · obtain ⟨y1, y2, y3, y4⟩ := k2 j (by omega)
    obtain ⟨x1, x2⟩ := s3.2.2.1 j (by omega)
    have b1 := fuD_le (way := way) (a := f0) (fu := wlV w c N) (W := wlN w N) hf (fun k => wlV_le (fun n hn _ => hcb n hn) k) j
    have b2 := fuD_le (way := way) (a := g0) (fu := wlV w d N) (W := wlN w N) hg hdb j
    exact ⟨by rw [y1]; exact x1, b1, by rw [y2]; exact x2, b2, by rw [y3]; exact x1, b1, by rw [y4], Nat.zero_le _⟩
  · obtain ⟨k1, k2⟩ := hI2
    have fI2 : ∀ z, z < x + 29 ∨ x + 50 ≤ z → I2 z = I0 z := fun z hz => by rw [k1 z (by omega), fI1 z (by omega)]; exact hI z hz
    have fR1 : ∀ z, z < x + 29 ∨ x + 50 ≤ z → R1 z = R0 z := fun z hz => by rw [eR1 z (by omega)]; exact hR z hz
    have hV : WV (x + 44) K I2 R1 (wlN w N + 1) (hrP way z (wyV w c N) (wlN w N + 1)) (laV w c 3 10 N) (laV w c 5 0 N) (d1N w c cs N) := by
      refine ⟨hS91, by rw [k1 _ (by omega)]; exact s3.1, by omega, fun k hk => ⟨by rw [k1 _ (by omega)]; exact s3.2.2.2 k hk, hrP_b hway hw4 hz hzh (fun k _ => hyb k) k hk⟩, by rw [k1 _ (by omega)]; exact s4, v6, by rw [k1 _ (by omega)]; exact s5, v8, v9, dr, e8, g2, fun k b j a1 a2 a3 a4 => ?_⟩
      rw [k1 _ (by omega), fI1 _ (by omega)]
      exact g3 k b j a1 a2 a3 a4
    obtain ⟨c1, c2, c3, c4, c5, c6, c7, c8, c9, -⟩ := hc
    refine c_earliest (p := x + 32) (u := x + 39) (q := x + 44) (M := M) (b := b) (start := st) (cS3 hC1) (cS10t hC1) hV (by rw [c2]) (by omega) c6 c7 (by rw [fI2 a (by omega)]; exact c5) (by rw [fI2 a (by omega)]; exact c8) k2 hM (by omega) (fun z hz => ?_) (by omega) (by omega) (fun I3 t m1 m2 _ _ _ => ?_)
    · rcases hz with (rfl | rfl | hz) | ⟨i, hi, rfl⟩
      · omega
      · omega
      · have hz : R1 (x + 44) 8 = some z := hz
        rw [e8] at hz
        cases hz
        omega
      · omega
    · have et : t = ov way z := bsT_uq m2 (ho way z)
      subst et
      refine ⟨rfl, fun z hz => (m1 z (by omega) (by omega) (by omega)).trans (fI2 z hz), fun z hz => ?_, ?_⟩
      · show plR (x + 32) (x + 44) (x + 39) R1 z = R0 z
        rw [plR_row (by omega)]
        exact fR1 z hz
      · exact (hC1.u (i := 32) (k := 4) rfl).u (i := 32) (k := 5) rfl
theorem dgS_none {ov : Nat → Nat → Option Nat} {way z : Nat} {acc : Dg} (h : ov way z = none) : dgS ov way z acc = acc := by unfold dgS; rw [h]
theorem dgS_new {ov : Nat → Nat → Option Nat} {way z t : Nat} (h : ov way z = some t) : dgS ov way z none = some (t, 100 * way + z) := by unfold dgS; rw [h]
theorem dgS_old {ov : Nat → Nat → Option Nat} {way z t : Nat} {a : Nat × Nat} (h : ov way z = some t) : dgS ov way z (some a) = if t < a.1 then some (t, 100 * way + z) else some a := by unfold dgS; rw [h]
set_option maxHeartbeats 1000000 in
theorem c_dig97 {k a b st r ra way f0 g0 : Nat} {x4 : Int32} {I0 : Im} {R0 : Rf} {r75 : Int32 → Int32 → Int32 → Option Nat → Option Nat → Int32 → Int32 → Int32 → Im → Rf → Option (Int32 × Im × Rf)} {P : Int32 × Im × Rf → Prop} (h : NowR x (x + 8) i q n M N (x + 73) (x + 74) w c d cs le la K I0 R0) (hc : CarR x nr k n a b st r ra K I0 R0) (hM : M ≤ 800000) (hM7 : 100 ≤ M) (hw4 : wlN w N < 5) (hway : way ≤ wlN w N) (hf : f0 ≤ 99) (hg : g0 ≤ 99) {ov : Nat → Nat → Option Nat} (ho : OvP w c d cs N b st f0 g0 ov) :
    ∀ (m z f : Nat) (I : Im) (R : Rf) (acc : Dg), z + m = wyV w c N way → 1 ≤ z → m < f → (∀ z, z < x + 29 ∨ x + 50 ≤ z → I z = I0 z) → (∀ z, z < x + 29 ∨ x + 50 ≤ z → R z = R0 z) → CSH x K R → DgB acc →
    (∀ I1 R1 acc1, acc1 = lpN (dgS ov way) m z acc → DgB acc1 → (∀ z, z < x + 29 ∨ x + 50 ≤ z → I1 z = I0 z) → (∀ z, z < x + 29 ∨ x + 50 ≤ z → R1 z = R0 z) → CSH x K R1 → Ok (r75 (nI f0) (nI g0) x4 (some a) (some q) (aT acc1) (aP acc1) (nI (way + 1)) I1 R1) P) →
    Ok (f_X11_dig_97 K x r75 f (nI f0) (nI g0) x4 (some a) (some q) (aT acc) (aP acc) (nI way) (nI z) I R) P := by
  have hW := h.2.1.1
  have hyb : ∀ k, 1 ≤ wyV w c N k ∧ wyV w c N k ≤ 9 := fun k => wyV_b (fun m hm hw => (hW.2.2.2 m hm).2.2.2.2.1 hw) k
  have hq := h.2.1.2.2.1
  intro m
  induction m with
  | zero =>
    intro z f I R acc hz hz1 hf' hI hR hC hB kk
    obtain ⟨f, rfl⟩ : ∃ f', f = f' + 1 := ⟨f - 1, by omega⟩
    have hw := h.2.1.qf (QF.cls hI) hR
    have hv := hw.2.2.2.1
    have g := kk I R acc rfl hB hI hR hC
    have := hyb way
    unfold f_X11_dig_97
    rw [ob9 hv.1, obs, l9_7 hv.1 (by omega), obs, (hv.2.2.2.1 way (by omega)).1, if_pos (by rw [nI_leI (by omega) (by omega)]; omega), L1, nI_add]
    exact g
  | succ m ih =>
    intro z f I R acc hz hz1 hf' hI hR hC hB kk
    obtain ⟨f, rfl⟩ : ∃ f', f = f' + 1 := ⟨f - 1, by omega⟩
    have hw := h.2.1.qf (QF.cls hI) hR
    have hv := hw.2.2.2.1
    have := hyb way
    obtain ⟨⟨t0, I3, R3⟩, s1, s2, s3, s4, s5⟩ := c_dig1 (z := z) hC h hc hM hM7 hw4 hway hz1 (by omega) hf hg ho hI hR
    have s2 : t0 = oI (ov way z) := s2
    have s3 : ∀ z, z < x + 29 ∨ x + 50 ≤ z → I3 z = I0 z := s3
    have s4 : ∀ z, z < x + 29 ∨ x + 50 ≤ z → R3 z = R0 z := s4
    have s5 : CSH x K R3 := s5
    obtain ⟨⟨I4, R4⟩, y1, y2⟩ := bnd s1
    obtain ⟨I5, y3, y4⟩ := bnd y2
    have y3 : f_X10_fill K R4 (x + 39) (some (x + 44)) I4 = some I5 := y3
    have y4 : f_X3_earliest K (x + 32) (some (x + 44)) (some (x + 39)) (some a) I5 R4 = some (t0, I3, R3) := y4
    have hC4 : CSH x K R4 := by
      obtain ⟨r', e1, e2⟩ := c_dug (u := x + 44) (q := q) (way := way) (z := z) (f0 := f0) (g0 := g0) (P := fun s => s.2 = u2 R (x + 44) 8 (R q 8)) (cS9t hC) hv.1 (fun i j hi hj => by omega) hw4 hway hz1 (by omega) (fun k _ => hyb k) ⟨hv.2.1, fun k hk => hw.2.2.2.2.2.2.2 k hk, fun k hk => (hv.2.2.2.1 k hk).1, hv.2.2.2.2.1, hw.2.2.2.2.2.1, hv.2.2.2.2.2.2.1⟩ (fun I1 _ _ _ _ _ => rfl)
      rw [y1] at e1
      cases e1
      have e2 : R4 = _ := e2
      rw [e2]
      exact hC.u (i := 44) (k := 8) rfl
    have S4 := cS11 hC4
    have hob : ∀ t, ov way z = some t → t ≤ 900000 := ov_b ho hc.2.2.2.2.2.2.1 hW hw4 hway hz1 (by omega) hf hc.2.2.2.2.2.2.2.2.1
    have hB' := dgS_b (ov := ov) (way := way) (z := z) hB hob
    have nx := fun acc' (e : dgS ov way z acc = acc') => ih (z + 1) f I3 R3 acc' (by omega) (by omega) (by omega) s3 s4 s5 (e ▸ hB') (fun I1 R1 acc1 e1 => kk I1 R1 acc1 (by rw [e1, ← e]; rfl))
    unfold f_X11_dig_97
    rw [ob9 hv.1, obs, l9_7 hv.1 (by omega), obs, (hv.2.2.2.1 way (by omega)).1, if_neg (by rw [nI_leI (by omega) (by omega)]; omega), o11_16 (cS11 hC), obs, y1, obs]
    show Ok (Option.bind (ob K 11 (R4 x 15)) fun a8 => Option.bind (f_X10_fill K R4 a8 (R4 x 16) I4) fun q10 => Option.bind (ob K 4 (R4 x 13)) fun a12 => Option.bind (f_X3_earliest K a12 (R4 x 16) (R4 x 15) (some a) q10 R4) _) P
    rw [o11_15 S4, obs, r11_16 S4, y3, obs, o11_13 S4, obs, r11_15 S4, y4, obs]
    show Ok (if t0 = -5 then f_X11_dig_97 K x r75 f (nI f0) (nI g0) x4 (some a) (some q) (aT acc) (aP acc) (nI way) (nI z + 1) I3 R3 else if aT acc = -5 then f_X11_dig_176 K x r75 (f_X11_dig_97 K x r75 f) (nI f0) (nI g0) x4 (some a) (some q) (nI way) (nI z) t0 I3 R3 else if aT acc ≤ t0 then f_X11_dig_97 K x r75 f (nI f0) (nI g0) x4 (some a) (some q) (aT acc) (aP acc) (nI way) (nI z + 1) I3 R3 else f_X11_dig_176 K x r75 (f_X11_dig_97 K x r75 f) (nI f0) (nI g0) x4 (some a) (some q) (nI way) (nI z) t0 I3 R3) P
    rw [s2]
    unfold f_X11_dig_176
    have e100 : (100 : Int32) * nI way + nI z = nI (100 * way + z) := by rw [show (100 : Int32) = nI 100 from rfl, pk_mul, nI_add]
    cases hv2 : ov way z with
    | none =>
      rw [if_pos (show oI none = -5 from rfl), L1, nI_add]
      exact nx acc (dgS_none hv2)
    | some t =>
      have bt := hob t hv2
      rw [if_neg (show ¬ (oI (some t) = -5) from nI_no5 (by omega))]
      cases acc with
      | none =>
        rw [if_pos (show aT none = -5 from rfl), e100, L1, nI_add]
        exact nx _ (dgS_new hv2)
      | some ac =>
        have bac := hB ac rfl
        rw [if_neg (show ¬ (aT (some ac) = -5) from (show ¬ (nI ac.1 = -5) from nI_no5 (by omega)))]
        by_cases c1 : t < ac.1
        · rw [if_neg (show ¬ (aT (some ac) ≤ oI (some t)) by show ¬ (nI ac.1 ≤ nI t); rw [nI_leI (by omega) (by omega)]; omega), e100, L1, nI_add]
          exact nx (some (t, 100 * way + z)) (by rw [dgS_old hv2, if_pos c1])
        · rw [if_pos (show aT (some ac) ≤ oI (some t) by show nI ac.1 ≤ nI t; rw [nI_leI (by omega) (by omega)]; omega), L1, nI_add]
          exact nx (some ac) (by rw [dgS_old hv2, if_neg c1])
theorem c_dig75 {k a b st r ra f0 g0 : Nat} {x4 : Int32} {I0 : Im} {R0 : Rf} {P : Int32 × Im × Rf → Prop} (h : NowR x (x + 8) i q n M N (x + 73) (x + 74) w c d cs le la K I0 R0) (hc : CarR x nr k n a b st r ra K I0 R0) (hM : M ≤ 800000) (hM7 : 100 ≤ M) (hw4 : wlN w N < 5) (hf : f0 ≤ 99) (hg : g0 ≤ 99) {ov : Nat → Nat → Option Nat} (ho : OvP w c d cs N b st f0 g0 ov) :
    ∀ (m way f : Nat) (I : Im) (R : Rf) (acc : Dg), way + m = wlN w N + 1 → m < f → (∀ z, z < x + 29 ∨ x + 50 ≤ z → I z = I0 z) → (∀ z, z < x + 29 ∨ x + 50 ≤ z → R z = R0 z) → CSH x K R → DgB acc →
    (∀ I1 R1 acc1, acc1 = lpN (dgI ov (wyV w c N)) m way acc → (∀ z, z < x + 29 ∨ x + 50 ≤ z → I1 z = I0 z) → (∀ z, z < x + 29 ∨ x + 50 ≤ z → R1 z = R0 z) → CSH x K R1 → P (if x4 = 0 then aP acc1 else aT acc1, I1, R1)) →
    Ok (f_X11_dig_75 K x f (nI f0) (nI g0) x4 (some a) (some q) (aT acc) (aP acc) (nI way) I R) P := by
  have hW := h.2.1.1
  have hyb : ∀ k, 1 ≤ wyV w c N k ∧ wyV w c N k ≤ 9 := fun k => wyV_b (fun m hm hw => (hW.2.2.2 m hm).2.2.2.2.1 hw) k
  intro m
  induction m with
  | zero =>
    intro way f I R acc hz hf' hI hR hC hB kk
    obtain ⟨f, rfl⟩ : ∃ f', f = f' + 1 := ⟨f - 1, by omega⟩
    have hv := (h.2.1.qf (QF.cls hI) hR).2.2.2.1
    have g := kk I R acc rfl hI hR hC
    unfold f_X11_dig_75 f_X11_dig_202
    rw [ob9 hv.1, obs, hv.2.1, if_pos (by rw [nI_ltI (by omega) (by omega)]; omega)]
    by_cases c0 : x4 = 0
    · rw [if_pos c0] at g ⊢; exact Ok.ret g
    · rw [if_neg c0] at g ⊢; exact Ok.ret g
  | succ m ih =>
    intro way f I R acc hz hf' hI hR hC hB kk
    obtain ⟨f, rfl⟩ : ∃ f', f = f' + 1 := ⟨f - 1, by omega⟩
    have hv := (h.2.1.qf (QF.cls hI) hR).2.2.2.1
    have := hyb way
    unfold f_X11_dig_75
    rw [ob9 hv.1, obs, hv.2.1, if_neg (by rw [nI_ltI (by omega) (by omega)]; omega), if_neg (by rw [L5, nI_leI (by omega) (by omega)]; omega), L1]
    refine c_dig97 h hc hM hM7 hw4 (by omega) hf hg ho (wyV w c N way - 1) 1 FU I R acc (by omega) (by omega) (FU_lt (by omega)) hI hR hC hB (fun I1 R1 acc1 e1 b1 g1 g2 g3 => ?_)
    exact ih (way + 1) f I1 R1 acc1 (by omega) (by omega) g1 g2 g3 b1 (fun I2 R2 acc2 e2 => kk I2 R2 acc2 (by rw [e2, e1]; rfl))
end
