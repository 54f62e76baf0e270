/-! DIG: a well more -/
def insN (way a : Nat) (fu : Nat → Nat) (k : Nat) : Nat := if k < way then fu k else if k = way then a else fu (k - 1)
def hrD (way z : Nat) (hr : Nat → Nat) (k : Nat) : Nat := if k < way then hr k else if k = way then z else if k = way + 1 then hr way - z else hr (k - 1)
def cntP (way k : Nat) : Nat := if way < k then k + 1 else k
def fuP (way a : Nat) (fu : Nat → Nat) (k j : Nat) : Nat := if j < cntP way k then insN way a fu j else 0
def fuD (way a : Nat) (fu : Nat → Nat) (W j : Nat) : Nat := if j < W + 1 then insN way a fu j else 0
def hrP (way z : Nat) (hr : Nat → Nat) (k j : Nat) : Nat := if j < cntP way k then hrD way z hr j else 3
theorem WsC.congr {u : Nat} {I : Im} {W Y : Nat} {fu gi hr fu' gi' hr' : Nat → Nat} (h : WsC u I W Y fu gi hr) (h1 : ∀ k, k < 5 → fu' k = fu k) (h2 : ∀ k, k < 5 → gi' k = gi k) (h3 : ∀ k, k < 6 → hr' k = hr k) : WsC u I W Y fu' gi' hr' :=
  ⟨h.1, h.2.1, fun k hk => by rw [h1 k hk, h2 k hk]; exact h.2.2.1 k hk, fun k hk => by rw [h3 k hk]; exact h.2.2.2 k hk⟩
theorem fuP_eq (way a : Nat) (fu : Nat → Nat) (k j : Nat) : fuP way a fu (k + 1) j = u1 (if k = way then u1 (fuP way a fu k) k a else fuP way a fu k) (if way ≤ k then k + 1 else k) (fu k) j := by
  by_cases c : k = way
  · subst c
    rw [if_pos rfl, if_pos (Nat.le_refl _)]
    simp only [fuP, insN, u1, cntP]
    (repeat' split) <;> first | rfl | omega | (congr 1 <;> omega)
  · rw [if_neg c]
    simp only [fuP, insN, u1, cntP]
    (repeat' split) <;> first | rfl | omega | (congr 1 <;> omega)
theorem hrP_eq (way z : Nat) (hr : Nat → Nat) (k j : Nat) : hrP way z hr (k + 1) j = if k = way then u1 (u1 (hrP way z hr k) k z) (k + 1) (hr k - z) j else u1 (hrP way z hr k) (cntP way k) (hr k) j := by
  by_cases c : k = way
  · subst c
    rw [if_pos rfl]
    simp only [hrP, hrD, u1, cntP]
    (repeat' split) <;> first | rfl | omega | (congr 1 <;> omega)
  · rw [if_neg c]
    simp only [hrP, hrD, u1, cntP]
    (repeat' split) <;> first | rfl | omega | (congr 1 <;> omega)
section
variable {u q W way z f0 g0 : Nat} {K : Sh} {R : Rf} {fu gi hr : Nat → Nat}
/-- what is read of the other waste -/
def OtW (q : Nat) (I : Im) (W : Nat) (fu gi hr : Nat → Nat) (cy ld sd : Nat) : Prop := I q 0 = nI W ∧ (∀ k, k < 5 → I (q + 1) k = nI (fu k) ∧ I (q + 2) k = nI (gi k)) ∧ (∀ k, k < 6 → I (q + 3) k = nI (hr k)) ∧ I q 2 = nI cy ∧ I q 3 = nI ld ∧ I q 4 = nI sd
theorem OtW.ow {I I1 : Im} {F : List Nat} {cy ld sd : Nat} (h : OtW q I W fu gi hr cy ld sd) (ho : OW u F I I1) (hd : ∀ i j, i < 4 → j < 4 → q + i ≠ u + j) : OtW q I1 W fu gi hr cy ld sd := by
  have e : ∀ i, i < 4 → I1 (q + i) = I (q + i) := fun i hi => ho.1 _ (hd i 0 hi (by decide)) (hd i 1 hi (by decide)) (hd i 2 hi (by decide)) (hd i 3 hi (by decide))
  have e0 : I1 q = I q := e 0 (by decide)
  unfold OtW
  rw [e0, e 1 (by decide), e 2 (by decide), e 3 (by decide)]
  exact h
theorem c_dug81 {cy ld sd : Nat} (hS : S9 u K R) (hq : S9 q K R) (hd : ∀ i j, i < 4 → j < 4 → q + i ≠ u + j) (hW : W < 5) (hway : way ≤ W) (hz : 1 ≤ z) (hzh : z < hr way) (hhr : ∀ k, k < 6 → 1 ≤ hr k ∧ hr k ≤ 9) {fuX giX : Nat → Nat} {P : Im × Rf → Prop} : ∀ (m k f : Nat) (I : Im), k + m = W + 1 → m < f → OtW q I W fu gi hr cy ld sd → WsC u I (W + 1) (cntP way k) fuX giX (hrP way z hr k) →
    (∀ I1, OW u [0, 1, 2, 3, 4] I I1 → WsC u I1 (W + 1) (W + 2) fuX giX (hrP way z hr (W + 1)) → I1 u 2 = nI cy → I1 u 3 = nI ld → I1 u 4 = nI sd → P (I1, u2 R u 8 (R q 8))) → Ok (f_X9_becomeDug_81 K u f (some q) (nI way) (nI z) (nI k) I R) P := by
  intro m
  induction m with
  | zero =>
    intro k f I hk hf hO hX kk
    obtain ⟨f, rfl⟩ : ∃ f', f = f' + 1 := ⟨f - 1, by omega⟩
    have : k = W + 1 := by omega
    subst this
    have hqu : q ≠ u := by have := hd 0 0 (by decide) (by decide); omega
    unfold f_X9_becomeDug_81
    rw [ob9 hq, obs, hO.1, if_pos (by rw [nI_ltI (by omega) (by omega)]; omega), obs, obs, obs, obs, u2_row hqu, u2_row hqu, u2_row hqu, hO.2.2.2.1, hO.2.2.2.2.1, hO.2.2.2.2.2]
    refine Ok.ret (kk _ (((OW.refl.pf (by decide)).pf (by decide)).pf (by decide)) ⟨?_, ?_, fun k hk => ?_, fun k hk => ?_⟩ ?_ ?_ ?_)
    · rw [u2_ne (by decide), u2_ne (by decide), u2_ne (by decide)]; exact hX.1
    · rw [u2_ne (by decide), u2_ne (by decide), u2_ne (by decide), hX.2.1]
      unfold cntP
      rw [if_pos (by omega)]
    · rw [u2_row (by omega), u2_row (by omega), u2_row (by omega), u2_row (by omega), u2_row (by omega), u2_row (by omega)]; exact hX.2.2.1 k hk
    · rw [u2_row (by omega), u2_row (by omega), u2_row (by omega)]; exact hX.2.2.2 k hk
    · rw [u2_ne (by decide), u2_ne (by decide), u2_eq]
    · rw [u2_ne (by decide), u2_eq]
    · rw [u2_eq]
  | succ m ih =>
    intro k f I hk hf hO hX kk
    obtain ⟨f, rfl⟩ : ∃ f', f = f' + 1 := ⟨f - 1, by omega⟩
    obtain ⟨b1, b2⟩ := hhr k (by omega)
    unfold f_X9_becomeDug_81
    rw [ob9 hq, obs, hO.1, if_neg (by rw [nI_ltI (by omega) (by omega)]; omega)]
    by_cases c : k = way
    · subst c
      rw [if_pos rfl]
      have hck : cntP k k = k := by unfold cntP; rw [if_neg (by omega)]
      rw [hck] at hX
      obtain ⟨I1, g1, g2, g3⟩ := c_addWay (a := z) hS hX (by omega) (by omega)
      rw [if_pos (by omega), if_pos (by omega)] at g3
      have hO1 := hO.ow g2 hd
      obtain ⟨I2, k1, k2, k3⟩ := c_addWay (a := hr k - z) hS g3 (by omega) (by omega)
      rw [if_pos (by omega), if_pos (by omega)] at k3
      have hO2 := hO1.ow k2 hd
      rw [g1, obs, l9_7 hq (by omega), obs, hO1.2.2.1 k (by omega), pk_sub (by omega), k1, obs, L1, nI_add]
      refine ih (k + 1) f I2 (by omega) (by omega) hO2 ?_ (fun I3 o1 o2 o3 o4 o5 => kk I3 ((g2.mono (by decide)).trans ((k2.mono (by decide)).trans o1)) o2 o3 o4 o5)
      have hc1 : cntP k (k + 1) = k + 1 + 1 := by unfold cntP; rw [if_pos (by omega)]
      rw [hc1]
      refine k3.congr (fun _ _ => rfl) (fun _ _ => rfl) (fun j _ => ?_)
      rw [hrP_eq, if_pos rfl, Nat.max_eq_left hz, Nat.max_eq_left (by omega)]
    · have nk : ¬ (nI k = nI way) := by rw [nI_eq (by omega) (by omega)]; exact c
      rw [if_neg nk, l9_7 hq (by omega), obs, hO.2.2.1 k (by omega)]
      have hcb : cntP way k < 6 := by unfold cntP; split <;> omega
      obtain ⟨I1, g1, g2, g3⟩ := c_addWay (a := hr k) hS hX (by omega) (by omega)
      rw [if_pos hcb, if_pos hcb] at g3
      have hO1 := hO.ow g2 hd
      rw [g1, obs, L1, nI_add]
      refine ih (k + 1) f I1 (by omega) (by omega) hO1 ?_ (fun I3 o1 o2 o3 o4 o5 => kk I3 ((g2.mono (by decide)).trans o1) o2 o3 o4 o5)
      have hc1 : cntP way (k + 1) = cntP way k + 1 := by unfold cntP; (repeat' split) <;> omega
      rw [hc1]
      refine g3.congr (fun _ _ => rfl) (fun _ _ => rfl) (fun j _ => ?_)
      rw [hrP_eq, if_neg c, Nat.max_eq_left b1]
theorem c_dug7 {cy ld sd : Nat} (hS : S9 u K R) (hq : S9 q K R) (hd : ∀ i j, i < 4 → j < 4 → q + i ≠ u + j) (hW : W < 5) (hway : way ≤ W) (hz : 1 ≤ z) (hzh : z < hr way) (hhr : ∀ k, k < 6 → 1 ≤ hr k ∧ hr k ≤ 9) {P : Im × Rf → Prop} : ∀ (m k f : Nat) (I : Im), k + m = W → m < f → OtW q I W fu gi hr cy ld sd → WsC u I (cntP way k) 0 (fuP way f0 fu k) (fuP way g0 gi k) (fun _ => 3) →
    (∀ I1, OW u [0, 1, 2, 3, 4] I I1 → WsC u I1 (W + 1) (W + 2) (fuD way f0 fu W) (fuD way g0 gi W) (hrP way z hr (W + 1)) → I1 u 2 = nI cy → I1 u 3 = nI ld → I1 u 4 = nI sd → P (I1, u2 R u 8 (R q 8))) → Ok (f_X9_becomeDug_7 K u f (some q) (nI way) (nI z) (nI f0) (nI g0) (nI k) I R) P := by
  have e62 : ∀ (I : Im), OtW q I W fu gi hr cy ld sd → WsC u I (cntP way W) 0 (fuP way f0 fu W) (fuP way g0 gi W) (fun _ => 3) → (∀ I1, OW u [0, 1, 2, 3, 4] I I1 → WsC u I1 (W + 1) (W + 2) (fuD way f0 fu W) (fuD way g0 gi W) (hrP way z hr (W + 1)) → I1 u 2 = nI cy → I1 u 3 = nI ld → I1 u 4 = nI sd → P (I1, u2 R u 8 (R q 8))) → Ok (f_X9_becomeDug_62 K u (some q) (nI way) (nI z) (nI f0) (nI g0) I R) P := by
    intro I hO hX kk
    have e0 : ∀ j, hrP way z hr 0 j = 3 := fun j => by unfold hrP cntP; rw [if_neg (by rw [if_neg (by omega)]; omega)]
    have c00 : cntP way 0 = 0 := by unfold cntP; rw [if_neg (by omega)]
    unfold f_X9_becomeDug_62
    rw [ob9 hq, obs, hO.1]
    by_cases c : way = W
    · have c1 : cntP way W = W := by unfold cntP; rw [if_neg (by omega)]
      rw [c1] at hX
      obtain ⟨I1, g1, g2, g3⟩ := c_addWell (f := f0) (g := g0) hS hX (by omega)
      rw [if_pos hW, if_pos hW, if_pos hW] at g3
      rw [if_pos (by rw [c]), g1, obs, L0]
      refine c_dug81 (fu := fu) (gi := gi) (fuX := fuD way f0 fu W) (giX := fuD way g0 gi W) hS hq hd hW hway hz hzh hhr (W + 1) 0 FU I1 (by omega) (FU_lt (by omega)) (hO.ow g2 hd) ?_ (fun I3 o1 o2 o3 o4 o5 => kk I3 ((g2.mono (by decide)).trans o1) o2 o3 o4 o5)
      rw [c00]
      refine g3.congr (fun j hj => ?_) (fun j hj => ?_) (fun j _ => e0 j)
      · simp only [fuD, fuP, insN, u1, cntP]
        (repeat' split) <;> first | rfl | omega | (congr 1 <;> omega)
      · simp only [fuD, fuP, insN, u1, cntP]
        (repeat' split) <;> first | rfl | omega | (congr 1 <;> omega)
    · have c1 : cntP way W = W + 1 := by unfold cntP; rw [if_pos (by omega)]
      rw [c1] at hX
      rw [if_neg (by rw [nI_eq (by omega) (by omega)]; exact c), L0]
      refine c_dug81 (fu := fu) (gi := gi) (fuX := fuD way f0 fu W) (giX := fuD way g0 gi W) hS hq hd hW hway hz hzh hhr (W + 1) 0 FU I (by omega) (FU_lt (by omega)) hO ?_ kk
      rw [c00]
      refine hX.congr (fun j hj => ?_) (fun j hj => ?_) (fun j _ => e0 j)
      · simp only [fuD, fuP, insN, cntP]
        (repeat' split) <;> first | rfl | omega | (congr 1 <;> omega)
      · simp only [fuD, fuP, insN, cntP]
        (repeat' split) <;> first | rfl | omega | (congr 1 <;> omega)
  intro m
  induction m with
  | zero =>
    intro k f I hk hf hO hX kk
    obtain ⟨f, rfl⟩ : ∃ f', f = f' + 1 := ⟨f - 1, by omega⟩
    have : k = W := by omega
    subst this
    unfold f_X9_becomeDug_7
    rw [ob9 hq, obs, hO.1, if_pos (Int32.le_refl _)]
    exact e62 I hO hX kk
  | succ m ih =>
    intro k f I hk hf hO hX kk
    obtain ⟨f, rfl⟩ : ∃ f', f = f' + 1 := ⟨f - 1, by omega⟩
    have hck : cntP way k < 5 := by unfold cntP; split <;> omega
    have hO0 := hO.2.1 k (by omega)
    have fin : ∀ (I1 : Im) (F : Nat → Nat) (G : Nat → Nat), OW u [0] I I1 → OtW q I1 W fu gi hr cy ld sd → WsC u I1 (if way ≤ k then k + 1 else k) 0 F G (fun _ => 3) → (∀ j, fuP way f0 fu (k + 1) j = u1 F (if way ≤ k then k + 1 else k) (fu k) j) → (∀ j, fuP way g0 gi (k + 1) j = u1 G (if way ≤ k then k + 1 else k) (gi k) j) → Ok (f_X9_becomeDug_38 K u (f_X9_becomeDug_7 K u f) (some q) (nI way) (nI z) (nI f0) (nI g0) (nI k) I1 R) P := by
      intro I1 F G o1 hO1 hX1 hF hG
      obtain ⟨h1, h2⟩ := hO1.2.1 k (by omega)
      have hb : (if way ≤ k then k + 1 else k) < 5 := by split <;> omega
      obtain ⟨I2, g1, g2, g3⟩ := c_addWell (f := fu k) (g := gi k) hS hX1 (by omega)
      rw [if_pos hb, if_pos hb, if_pos hb] at g3
      unfold f_X9_becomeDug_38
      rw [ob9 hq, obs, l9_5 hq (by omega), obs, l9_6 hq (by omega), obs, h1, h2, g1, obs, L1, nI_add]
      refine ih (k + 1) f I2 (by omega) (by omega) (hO1.ow g2 hd) ?_ (fun I3 p1 p2 p3 p4 p5 => kk I3 ((o1.mono (by decide)).trans ((g2.mono (by decide)).trans p1)) p2 p3 p4 p5)
      have hc : cntP way (k + 1) = (if way ≤ k then k + 1 else k) + 1 := by unfold cntP; (repeat' split) <;> omega
      rw [hc]
      exact g3.congr (fun j _ => hF j) (fun j _ => hG j) (fun _ _ => rfl)
    unfold f_X9_becomeDug_7
    rw [ob9 hq, obs, hO.1, if_neg (by rw [nI_leI (by omega) (by omega)]; omega), hX.1, if_neg (by rw [L5, nI_leI (by omega) (by omega)]; omega)]
    by_cases c : k = way
    · subst c
      have c1 : cntP k k = k := by unfold cntP; rw [if_neg (by omega)]
      rw [c1] at hX
      obtain ⟨I1, g1, g2, g3⟩ := c_addWell (f := f0) (g := g0) hS hX (by omega)
      rw [if_pos (by omega), if_pos (by omega), if_pos (by omega)] at g3
      rw [if_pos rfl, g1, obs]
      refine fin I1 _ _ g2 (hO.ow g2 hd) (by rw [if_pos (Nat.le_refl _)]; exact g3) (fun j => ?_) (fun j => ?_)
      · rw [fuP_eq, if_pos rfl]
      · rw [fuP_eq, if_pos rfl]
    · rw [if_neg (by rw [nI_eq (by omega) (by omega)]; exact c)]
      refine fin I _ _ OW.refl hO (by
        have : cntP way k = if way ≤ k then k + 1 else k := by unfold cntP; (repeat' split) <;> omega
        rw [← this]; exact hX) (fun j => ?_) (fun j => ?_)
      · rw [fuP_eq, if_neg c]
      · rw [fuP_eq, if_neg c]
theorem c_dug {cy ld sd : Nat} (hS : S9 u K R) (hq : S9 q K R) (hd : ∀ i j, i < 4 → j < 4 → q + i ≠ u + j) (hW : W < 5) (hway : way ≤ W) (hz : 1 ≤ z) (hzh : z < hr way) (hhr : ∀ k, k < 6 → 1 ≤ hr k ∧ hr k ≤ 9) {P : Im × Rf → Prop} {I : Im} (hO : OtW q I W fu gi hr cy ld sd)
    (kk : ∀ I1, OW u [0, 1, 2, 3, 4] I I1 → WsC u I1 (W + 1) (W + 2) (fuD way f0 fu W) (fuD way g0 gi W) (hrP way z hr (W + 1)) → I1 u 2 = nI cy → I1 u 3 = nI ld → I1 u 4 = nI sd → P (I1, u2 R u 8 (R q 8))) : Ok (f_X9_becomeDug K u (some q) (nI way) (nI z) (nI f0) (nI g0) I R) P := by
  unfold f_X9_becomeDug
  refine Ok.bind (c_clear (P := fun I1 => OW u [0, 1, 2, 3, 4] I I1 ∧ WsC u I1 0 0 (fun _ => 0) (fun _ => 0) (fun _ => 3)) hS (fun I1 g1 g2 _ _ _ => ⟨g1, g2⟩)) (fun I1 hI1 => ?_)
  obtain ⟨g1, g2⟩ := hI1
  rw [L0]
  have c00 : cntP way 0 = 0 := by unfold cntP; rw [if_neg (by omega)]
  have f00 : ∀ (a : Nat) (fu : Nat → Nat) (j : Nat), fuP way a fu 0 j = 0 := fun a fu j => by unfold fuP; rw [if_neg (by rw [c00]; omega)]
  refine c_dug7 hS hq hd hW hway hz hzh hhr W 0 FU I1 (by omega) (FU_lt (by omega)) (hO.ow g1 hd) ?_ (fun I3 p1 p2 p3 p4 p5 => kk I3 (g1.trans p1) p2 p3 p4 p5)
  rw [c00]
  exact g2.congr (fun j _ => f00 _ _ j) (fun j _ => f00 _ _ j) (fun _ _ => rfl)
end
