/-! THE REFERENCE'S SEARCH FOR BEST -/
def peN (la hr fu gi le : Nat → Nat) (th : Nat → Nat → Nat) (sd rm : Nat) : PE := (la, hr, fun k h => wayD (th k) h (hr k), fun k h => heldN fu gi le la k h, sd, rm)
def dfG (e : PE) (f k h w : Nat) (pr : Nat → Nat) (c : Nat) (acc : Ac) : Ac := match stp e k c h w with
  | some p => dfsN e f (k + 1) p.1 p.2 (u1 pr k c) acc
  | none => acc
theorem dfsN_S (e : PE) (f k h w : Nat) (pr : Nat → Nat) (acc : Ac) : dfsN e (f + 1) k h w pr acc = lpN (dfG e f k h w pr) 7 0 acc := by
  simp only [dfsN]
  rfl
theorem dfG_some {e : PE} {f k h w c : Nat} {pr : Nat → Nat} {acc : Ac} {p : Nat × Nat} (q : stp e k c h w = some p) : dfG e f k h w pr c acc = dfsN e f (k + 1) p.1 p.2 (u1 pr k c) acc := by unfold dfG; rw [q]
theorem dfG_none {e : PE} {f k h w c : Nat} {pr : Nat → Nat} {acc : Ac} (q : stp e k c h w = none) : dfG e f k h w pr c acc = acc := by unfold dfG; rw [q]
theorem lpN_none {e : PE} {f k h w : Nat} {pr : Nat → Nat} (q : ∀ c, stp e k c h w = none) : ∀ m c acc, lpN (dfG e f k h w pr) m c acc = acc := by
  intro m
  induction m with
  | zero => intro c acc; rfl
  | succ m ih => intro c acc; simp only [lpN]; rw [dfG_none (q c), ih]
theorem stp_wait {e : PE} {k h w : Nat} (q : w < (e.la k - h) * e.sd) (c : Nat) : stp e k c h w = none := by
  unfold stp
  rw [if_neg]
  rintro ⟨a, -⟩
  have : (e.la k - h) * e.sd ≤ (lvE e k h c - h) * e.sd := Nat.mul_le_mul_right _ (by unfold lvE; omega)
  omega
theorem dfs_wait {e : PE} {f k h w : Nat} {pr : Nat → Nat} {acc : Ac} (q : w < (e.la k - h) * e.sd) : dfsN e (f + 1) k h w pr acc = acc := by
  rw [dfsN_S]
  exact lpN_none (stp_wait q) 7 0 acc
def acI (acc : Ac) : Int32 := match acc with
  | none => -1
  | some a => nI a.1
def acR (acc : Ac) (j : Nat) : Nat := match acc with
  | none => 0
  | some a => a.2 j
/-- the search's account in the cells -/
def AcM (o W : Nat) (I : Im) (acc : Ac) : Prop := (∀ a, acc = some a → a.1 ≤ 1000000) ∧ ∀ j, j < W → I (o + 30) j = nI (acR acc j)
def nbN : Nat → Nat → Nat
  | 0, _ => 0
  | f + 1, m => m * (1 + nbN f 7) + 1
theorem nbN_S (f m : Nat) : nbN (f + 1) (m + 1) = nbN (f + 1) m + 1 + nbN f 7 := by
  simp only [nbN]
  rw [Nat.succ_mul]
  omega
section
variable {o : Nat} {K : Sh} {R : Rf}
theorem hw_sw {I : Im} {h w : Nat} : u2 (u2 I o 47 (nI h)) o 48 (nI w) = hwI o I h w := by
  funext a k
  simp only [hwI, u2]
  by_cases q : a = o ∧ k = 47
  · simp [q]
  · by_cases q2 : a = o ∧ k = 48
    · simp [q2]
    · simp [q, q2]
theorem m_copy258 (hM : S12 o K R) {W : Nat} {g : Nat → Nat} {r : Int32 → Int32 → Im → Option Im} {x2 x3 : Int32} {P : Im → Prop} (hW : W ≤ 5) (hg : ∀ i, i < W → g i ≤ 6) : ∀ (q j : Nat) (I : Im), W - j < q → j ≤ W → I o 21 = nI W → (∀ i, i < W → I (o + 31) i = nI (g i + 1)) → (∀ i, i < j → I (o + 30) i = nI (g i)) →
    (∀ I1, FM o [30] [] I I1 → (∀ i, i < W → I1 (o + 30) i = nI (g i)) → Ok (r x2 x3 I1) P) → Ok (f_X12_findBest_258 K R o r q x2 x3 (nI j) I) P := by
  intro q
  induction q with
  | zero => intro j I h; omega
  | succ q ih =>
    intro j I hq hj h21 h31 hz kk
    unfold f_X12_findBest_258
    by_cases e : j = W
    · subst e
      simp (disch := omega) only [L0, L1, L2, L3, L4, L5, L6, L7, L8, L9, L10, L11, L12, L13, L14, L15, L16, L17, L18, L19, L20, L21, L22, L23, L24, L25, L26, L27, L28, L29, L30, L31, L32, L33, L34, L35, L36, L37, L38, L39, L40, L48, L57, L59, L60, L62, L96, L97, L98, L99, L100, L104, L110, L119, L124, L500, L999, L1000, L2000, L3000, nI_add, pk_mul, pk_sub, nI_leI, nI_ltI, nI_eq, obs, u2_eq, u2_row, u2_ne, if_pos, if_neg, if_true, if_false, eq_self, h21]
      exact kk I FM.refl hz
    · have h31j := h31 j (by omega)
      have hgj := hg j (by omega)
      have F : FM o [30] [] I (u2 I (o + 30) j (nI (g j))) := FM.st FM.refl (by decide)
      simp (disch := omega) only [L0, L1, L2, L3, L4, L5, L6, L7, L8, L9, L10, L11, L12, L13, L14, L15, L16, L17, L18, L19, L20, L21, L22, L23, L24, L25, L26, L27, L28, L29, L30, L31, L32, L33, L34, L35, L36, L37, L38, L39, L40, L48, L57, L59, L60, L62, L96, L97, L98, L99, L100, L104, L110, L119, L124, L500, L999, L1000, L2000, L3000, nI_add, pk_mul, pk_sub, nI_leI, nI_ltI, nI_eq, obs, u2_eq, u2_row, u2_ne, if_pos, if_neg, if_true, if_false, eq_self, h21, l12_42 hM, h31j, s12_41 hM, Nat.add_sub_cancel]
      refine ih (j + 1) _ (by omega) (by omega) (by simp (disch := omega) only [L0, L1, L2, L3, L4, L5, L6, L7, L8, L9, L10, L11, L12, L13, L14, L15, L16, L17, L18, L19, L20, L21, L22, L23, L24, L25, L26, L27, L28, L29, L30, L31, L32, L33, L34, L35, L36, L37, L38, L39, L40, L48, L57, L59, L60, L62, L96, L97, L98, L99, L100, L104, L110, L119, L124, L500, L999, L1000, L2000, L3000, nI_add, pk_mul, pk_sub, nI_leI, nI_ltI, nI_eq, obs, u2_eq, u2_row, u2_ne]; exact h21) (fun i hi => by simp (disch := omega) only [L0, L1, L2, L3, L4, L5, L6, L7, L8, L9, L10, L11, L12, L13, L14, L15, L16, L17, L18, L19, L20, L21, L22, L23, L24, L25, L26, L27, L28, L29, L30, L31, L32, L33, L34, L35, L36, L37, L38, L39, L40, L48, L57, L59, L60, L62, L96, L97, L98, L99, L100, L104, L110, L119, L124, L500, L999, L1000, L2000, L3000, nI_add, pk_mul, pk_sub, nI_leI, nI_ltI, nI_eq, obs, u2_eq, u2_row, u2_ne]; exact h31 i hi) (fun i hi => ?_) (fun I1 G g1 => kk I1 (F.trans G) g1)
      by_cases c : i = j
      · subst c; rw [u2_eq]
      · rw [u2_ne c]; exact hz i (by omega)
theorem AcM.congr {W : Nat} {I I' : Im} {acc : Ac} (h : AcM o W I acc) (q : I' (o + 30) = I (o + 30)) : AcM o W I' acc := by
  unfold AcM
  rw [q]
  exact h
def NodeM (o : Nat) (K : Sh) (R : Rf) (W sd rm M : Nat) (fu gi hr le la : Nat → Nat) (th : Nat → Nat → Nat) (P : Im → Prop) (f : Nat) : Prop := ∀ (k : Nat), k + (f + 1) = W → ∀ (m c q h w : Nat) (I : Im) (acc : Ac) (pr : Nat → Nat), c + m = 7 → nbN (f + 1) m < q → LaidM o I W fu gi hr th sd rm →
    (∀ j, j < W → I (o + 17) j = nI (le j) ∧ le j ≤ 99 ∧ I (o + 18) j = nI (la j) ∧ la j ≤ M) → h ≤ M + 15 * k + 9 → w ≤ rm → (la k - h) * sd ≤ w →
    I (o + 31) k = nI c → I (o + 32) k = nI (max h (la k)) → I (o + 33) k = nI (w - (la k - h) * sd) → (∀ j, j < k → I (o + 31) j = nI (pr j + 1) ∧ pr j ≤ 6) → AcM o W I acc →
    (∀ q' I' acc', q ≤ q' + nbN (f + 1) m → acc' = lpN (dfG (peN la hr fu gi le th sd rm) f k h w pr) m c acc → FM o [30, 31, 32, 33] [47, 48] I I' → (∀ j, j < k → I' (o + 31) j = I (o + 31) j ∧ I' (o + 32) j = I (o + 32) j ∧ I' (o + 33) j = I (o + 33) j) → AcM o W I' acc' → Ok (f_X12_findBest_89 K R o q' (acI acc') (nI k - nI 1) I') P) →
    Ok (f_X12_findBest_89 K R o q (acI acc) (nI k) I) P
set_option maxHeartbeats 1000000 in
theorem m_nodeS (hM : S12 o K R) {W sd rm M : Nat} {fu gi hr le la : Nat → Nat} {th : Nat → Nat → Nat} {P : Im → Prop} (hMb : M ≤ 800000) (hW5 : W ≤ 5) (f : Nat) (hsub : ∀ f', f = f' + 1 → NodeM o K R W sd rm M fu gi hr le la th P f') : NodeM o K R W sd rm M fu gi hr le la th P f := by
  intro k hk m
  induction m with
  | zero =>
    intro c q h w I acc pr hc hq hL hwl hh hw hwt h31 h32 h33 hpr hac kk
    obtain ⟨q, rfl⟩ : ∃ q', q = q' + 1 := ⟨q - 1, by omega⟩
    have e : c = 7 := by omega
    subst e
    have g := kk q I acc (by simp only [nbN]; omega) rfl FM.refl (fun _ _ => ⟨rfl, rfl, rfl⟩) hac
    unfold f_X12_findBest_89
    simp (disch := omega) only [L0, L1, L2, L3, L4, L5, L6, L7, L8, L9, L10, L11, L12, L13, L14, L15, L16, L17, L18, L19, L20, L21, L22, L23, L24, L25, L26, L27, L28, L29, L30, L31, L32, L33, L34, L35, L36, L37, L38, L39, L40, L48, L57, L59, L60, L62, L96, L97, L98, L99, L100, L104, L110, L119, L124, L500, L999, L1000, L2000, L3000, nI_add, pk_mul, pk_sub, nI_leI, nI_ltI, nI_eq, obs, u2_eq, u2_row, u2_ne, if_pos, if_neg, if_true, if_false, eq_self, l12_42 hM, h31]
    exact g
  | succ m ihm =>
    intro c q h w I acc pr hc hq hL hwl hh hw hwt h31 h32 h33 hpr hac kk
    obtain ⟨q, rfl⟩ : ∃ q', q = q' + 1 := ⟨q - 1, by omega⟩
    have hnb := nbN_S f m
    obtain ⟨b1, b2, b3, b4⟩ := hwl k (by omega)
    have hcb : c ≤ 6 := by omega
    have F1 : FM o [30, 31, 32, 33] [47, 48] I (u2 I (o + 31) k (nI (c + 1))) := FM.st FM.refl (by decide)
    have next : ∀ q' I' acc', q ≤ q' + nbN f 7 → acc' = dfG (peN la hr fu gi le th sd rm) f k h w pr c acc → FM o [30, 31, 32, 33] [47, 48] (u2 I (o + 31) k (nI (c + 1))) I' → (∀ j, j < k + 1 → I' (o + 31) j = u2 I (o + 31) k (nI (c + 1)) (o + 31) j ∧ I' (o + 32) j = I (o + 32) j ∧ I' (o + 33) j = I (o + 33) j) → AcM o W I' acc' → Ok (f_X12_findBest_89 K R o q' (acI acc') (nI k) I') P := by
      intro q' I' acc' n1 n2 n3 n4 n5
      have F2 := F1.trans n3
      refine ihm (c + 1) q' h w I' acc' pr (by omega) (by omega) (hL.fm F2 (by decide) (by decide)) (fun j hj => by rw [F2.arr (by decide) (by decide), F2.arr (by decide) (by decide)]; exact hwl j hj) hh hw hwt ?_ ?_ ?_ (fun j hj => ?_) n5 (fun q'' I'' acc'' k1 k2 k3 k4 k5 => ?_)
      · rw [(n4 k (by omega)).1, u2_eq]
      · rw [(n4 k (by omega)).2.1, h32]
      · rw [(n4 k (by omega)).2.2, h33]
      · rw [(n4 j (by omega)).1, u2_ne (by omega)]
        exact hpr j hj
      · refine kk q'' I'' acc'' (by omega) (by rw [k2, n2]; rfl) (F2.trans k3) (fun j hj => ?_) k5
        obtain ⟨z1, z2, z3⟩ := k4 j hj
        obtain ⟨y1, y2, y3⟩ := n4 j (by omega)
        rw [z1, z2, z3, y1, y2, y3, u2_ne (by omega)]
        exact ⟨rfl, rfl, rfl⟩
    have L1 := hL.fm F1 (by decide) (by decide)
    obtain ⟨a21, aW, a1, a2, a45, asd, a46, arm⟩ := L1
    have b1' : u2 I (o + 31) k (nI (c + 1)) (o + 17) k = nI (le k) := by rw [u2_row (by omega)]; exact b1
    have b3' : u2 I (o + 31) k (nI (c + 1)) (o + 18) k = nI (la k) := by rw [u2_row (by omega)]; exact b3
    have hac1 : ∀ a b, AcM o W (hwI o (u2 I (o + 31) k (nI (c + 1))) a b) acc := fun a b => hac.congr (by rw [hw_row (by omega), u2_row (by omega)])
    have FH : ∀ a b, FM o [30, 31, 32, 33] [47, 48] (u2 I (o + 31) k (nI (c + 1))) (hwI o (u2 I (o + 31) k (nI (c + 1))) a b) := fun a b => FM.hw FM.refl (by decide) (by decide)
    have nextH : ∀ a b, dfG (peN la hr fu gi le th sd rm) f k h w pr c acc = acc → Ok (f_X12_findBest_89 K R o q (acI acc) (nI k) (hwI o (u2 I (o + 31) k (nI (c + 1))) a b)) P := fun a b hg => by
      refine next q _ acc (by omega) hg.symm (FH a b) (fun j hj => ?_) (hac1 a b)
      rw [hw_row (by omega), hw_row (by omega), hw_row (by omega), u2_row (a := o + 31) (b := o + 32) (by omega), u2_row (a := o + 31) (b := o + 33) (by omega)]
      exact ⟨rfl, rfl, rfl⟩
    have s1 := m_standsFor (K := K) (o := o) (I := u2 I (o + 31) k (nI (c + 1))) (h := max h (la k)) (wt := w - (la k - h) * sd) (n := c) a45 (by omega) (by omega) (by omega) asd
    have hlv : lvE (peN la hr fu gi le th sd rm) k h c = max h (la k) + c := rfl
    have hmul : (lvE (peN la hr fu gi le th sd rm) k h c - h) * sd = (la k - h) * sd + c * sd := by
      rw [hlv, show max h (la k) + c - h = (la k - h) + c by omega, Nat.add_mul]
    unfold f_X12_findBest_89
    by_cases c2 : c * sd ≤ w - (la k - h) * sd
    · rw [if_pos c2] at s1
      obtain ⟨z14, zf, z15, zg⟩ := a1 k (by omega)
      have b1'' := b1'
      have s2 := m_draws0 (le := le) (la := la) hM (by omega : k < 6) a46 z14 z15 b1' b3' zf zg b2 (by omega) (by omega : max h (la k) + c ≤ 1000000) arm (by omega : w - (la k - h) * sd - c * sd ≤ rm)
      generalize hh3 : max h (la k) + c = h3 at s1 s2 hlv
      generalize hw3 : w - (la k - h) * sd - c * sd = w3 at s1 s2
      have hfi : fiE (peN la hr fu gi le th sd rm) k h w c = w3 + min (heldN fu gi le la k h3) (rm - w3) := by
        show min rm (w - (lvE (peN la hr fu gi le th sd rm) k h c - h) * sd + heldN fu gi le la k (lvE (peN la hr fu gi le th sd rm) k h c)) = _
        rw [hmul, hlv]
        omega
      generalize hw4 : w3 + min (heldN fu gi le la k h3) (rm - w3) = w4 at s2 hfi
      have bw4 : w4 ≤ rm := by omega
      obtain ⟨y16, yh, yt⟩ := a2 (k + 1) (by omega)
      obtain ⟨g1, g2⟩ := m_goesWay hM (by omega : k + 1 ≤ 6) y16 yh yt (by omega : h3 ≤ 1000000) (by omega : w4 ≤ 1000000)
      have e21 : ∀ a b, hwI o (u2 I (o + 31) k (nI (c + 1))) a b o 21 = nI W := fun a b => by rw [hw_fld (by decide) (by decide)]; exact a21
      by_cases c3 : wayD (th (k + 1)) h3 (hr (k + 1)) ≤ w4
      · have s3 := g1 c3
        have hp : stp (peN la hr fu gi le th sd rm) k c h w = some (h3 + hr (k + 1), w4 - wayD (th (k + 1)) h3 (hr (k + 1))) := by
          have z := stp_pos (e := peN la hr fu gi le th sd rm) (k := k) (h := h) (w := w) (s := c) (by show (lvE (peN la hr fu gi le th sd rm) k h c - h) * sd ≤ w; rw [hmul]; omega) (by show wayD (th (k + 1)) (lvE (peN la hr fu gi le th sd rm) k h c) (hr (k + 1)) ≤ _; rw [hlv, hfi]; exact c3)
          rw [hlv, hfi] at z
          exact z
        have hdf : ∀ ac, dfG (peN la hr fu gi le th sd rm) f k h w pr c ac = dfsN (peN la hr fu gi le th sd rm) f (k + 1) (h3 + hr (k + 1)) (w4 - wayD (th (k + 1)) h3 (hr (k + 1))) (u1 pr k c) ac := fun ac => dfG_some hp
        have hpr' : ∀ j, j < k + 1 → u2 I (o + 31) k (nI (c + 1)) (o + 31) j = nI (u1 pr k c j + 1) ∧ u1 pr k c j ≤ 6 := fun j hj => by
          by_cases z : j = k
          · subst z; rw [u2_eq, u1_eq]; exact ⟨rfl, hcb⟩
          · rw [u2_ne z, u1_ne z]; exact hpr j (by omega)
        generalize hh5 : h3 + hr (k + 1) = h5 at s3 hdf
        generalize hw5 : w4 - wayD (th (k + 1)) h3 (hr (k + 1)) = w5 at s3 hdf
        by_cases cf : f = 0
        · subst cf
          have hkW : k + 1 = W := by omega
          subst hkW
          have upd : ∀ ac : Ac, acc = ac → leafN h5 (u1 pr k c) acc = some (h5, u1 pr k c) → Ok (f_X12_findBest_250 K R o (f_X12_findBest_89 K R o q) (nI k) (hwI o (u2 I (o + 31) k (nI (c + 1))) h5 w5)) P := by
            intro ac _ hlf
            unfold f_X12_findBest_250
            rw [hw_47, L0]
            refine m_copy258 hM (by omega) (g := u1 pr k c) (fun i hi => (hpr' i hi).2) FU 0 _ (FU_lt (by omega)) (by omega) (e21 _ _) (fun i hi => by rw [hw_row (by omega)]; exact (hpr' i hi).1) (fun i hi => by omega) (fun I1 G g1 => ?_)
            have z := next q I1 (some (h5, u1 pr k c)) (by omega) (by rw [hdf]; exact hlf.symm) ((FH h5 w5).trans (G.mono (by decide) (by decide))) (fun j hj => ?_) ⟨fun a ha => by cases ha; show h5 ≤ 1000000; omega, g1⟩
            · exact z
            · rw [G.arr (by decide) (by decide), G.arr (by decide) (by decide), G.arr (by decide) (by decide), hw_row (by omega), hw_row (by omega), hw_row (by omega), u2_row (a := o + 31) (b := o + 32) (by omega), u2_row (a := o + 31) (b := o + 33) (by omega)]
              exact ⟨rfl, rfl, rfl⟩
          cases acc with
          | none =>
            have g := upd none rfl rfl
            have x2 : acI none < nI 0 := by decide
            (repeat (first | ((with_reducible apply Ok.st); (focus (first | (simp (disch := omega) only [L0, L1, L2, L3, L4, L5, L6, L7, L8, L9, L10, L11, L12, L13, L14, L15, L16, L17, L18, L19, L20, L21, L22, L23, L24, L25, L26, L27, L28, L29, L30, L31, L32, L33, L34, L35, L36, L37, L38, L39, L40, L48, L57, L59, L60, L62, L96, L97, L98, L99, L100, L104, L110, L119, L124, L500, L999, L1000, L2000, L3000, nI_add, pk_mul, pk_sub, nI_leI, nI_ltI, nI_eq, obs, u2_eq, u2_row, u2_ne, if_pos, if_neg, if_true, if_false, eq_self, ne_eq, not_true_eq_false, not_false_eq_true, l12_42 hM, l12_43 hM, l12_44 hM, s12_42 hM, h31, h32, h33, hw_sw, hw_u, hw_row, s1, s2, s3, e21, x2]; with_reducible exact rfl) | (with_reducible exact rfl)))) | ((with_reducible apply Ok.itT); (focus (simp (disch := omega) only [L0, L1, L2, L3, L4, L5, L6, L7, L8, L9, L10, L11, L12, L13, L14, L15, L16, L17, L18, L19, L20, L21, L22, L23, L24, L25, L26, L27, L28, L29, L30, L31, L32, L33, L34, L35, L36, L37, L38, L39, L40, L48, L57, L59, L60, L62, L96, L97, L98, L99, L100, L104, L110, L119, L124, L500, L999, L1000, L2000, L3000, nI_add, pk_mul, pk_sub, nI_leI, nI_ltI, nI_eq, obs, u2_eq, u2_row, u2_ne, if_pos, if_neg, if_true, if_false, eq_self, ne_eq, not_true_eq_false, not_false_eq_true, l12_42 hM, l12_43 hM, l12_44 hM, s12_42 hM, h31, h32, h33, hw_sw, hw_u, hw_row, s1, s2, s3, e21, x2] <;> omega))) | ((with_reducible apply Ok.itF); (focus (simp (disch := omega) only [L0, L1, L2, L3, L4, L5, L6, L7, L8, L9, L10, L11, L12, L13, L14, L15, L16, L17, L18, L19, L20, L21, L22, L23, L24, L25, L26, L27, L28, L29, L30, L31, L32, L33, L34, L35, L36, L37, L38, L39, L40, L48, L57, L59, L60, L62, L96, L97, L98, L99, L100, L104, L110, L119, L124, L500, L999, L1000, L2000, L3000, nI_add, pk_mul, pk_sub, nI_leI, nI_ltI, nI_eq, obs, u2_eq, u2_row, u2_ne, if_pos, if_neg, if_true, if_false, eq_self, ne_eq, not_true_eq_false, not_false_eq_true, l12_42 hM, l12_43 hM, l12_44 hM, s12_42 hM, h31, h32, h33, hw_sw, hw_u, hw_row, s1, s2, s3, e21, x2] <;> omega)))))
            exact g
          | some a =>
            have ba := hac.1 a rfl
            by_cases c5 : h5 < a.1
            · have g := upd (some a) rfl (by unfold leafN; simp only [if_pos c5])
              have x2 : acI (some a) = nI a.1 := rfl
              rw [x2]
              (repeat (first | ((with_reducible apply Ok.st); (focus (first | (simp (disch := omega) only [L0, L1, L2, L3, L4, L5, L6, L7, L8, L9, L10, L11, L12, L13, L14, L15, L16, L17, L18, L19, L20, L21, L22, L23, L24, L25, L26, L27, L28, L29, L30, L31, L32, L33, L34, L35, L36, L37, L38, L39, L40, L48, L57, L59, L60, L62, L96, L97, L98, L99, L100, L104, L110, L119, L124, L500, L999, L1000, L2000, L3000, nI_add, pk_mul, pk_sub, nI_leI, nI_ltI, nI_eq, obs, u2_eq, u2_row, u2_ne, if_pos, if_neg, if_true, if_false, eq_self, ne_eq, not_true_eq_false, not_false_eq_true, l12_42 hM, l12_43 hM, l12_44 hM, s12_42 hM, h31, h32, h33, hw_sw, hw_u, hw_row, hw_47, s1, s2, s3, e21]; with_reducible exact rfl) | (with_reducible exact rfl)))) | ((with_reducible apply Ok.itT); (focus (simp (disch := omega) only [L0, L1, L2, L3, L4, L5, L6, L7, L8, L9, L10, L11, L12, L13, L14, L15, L16, L17, L18, L19, L20, L21, L22, L23, L24, L25, L26, L27, L28, L29, L30, L31, L32, L33, L34, L35, L36, L37, L38, L39, L40, L48, L57, L59, L60, L62, L96, L97, L98, L99, L100, L104, L110, L119, L124, L500, L999, L1000, L2000, L3000, nI_add, pk_mul, pk_sub, nI_leI, nI_ltI, nI_eq, obs, u2_eq, u2_row, u2_ne, if_pos, if_neg, if_true, if_false, eq_self, ne_eq, not_true_eq_false, not_false_eq_true, l12_42 hM, l12_43 hM, l12_44 hM, s12_42 hM, h31, h32, h33, hw_sw, hw_u, hw_row, hw_47, s1, s2, s3, e21] <;> omega))) | ((with_reducible apply Ok.itF); (focus (simp (disch := omega) only [L0, L1, L2, L3, L4, L5, L6, L7, L8, L9, L10, L11, L12, L13, L14, L15, L16, L17, L18, L19, L20, L21, L22, L23, L24, L25, L26, L27, L28, L29, L30, L31, L32, L33, L34, L35, L36, L37, L38, L39, L40, L48, L57, L59, L60, L62, L96, L97, L98, L99, L100, L104, L110, L119, L124, L500, L999, L1000, L2000, L3000, nI_add, pk_mul, pk_sub, nI_leI, nI_ltI, nI_eq, obs, u2_eq, u2_row, u2_ne, if_pos, if_neg, if_true, if_false, eq_self, ne_eq, not_true_eq_false, not_false_eq_true, l12_42 hM, l12_43 hM, l12_44 hM, s12_42 hM, h31, h32, h33, hw_sw, hw_u, hw_row, hw_47, s1, s2, s3, e21] <;> omega)))))
              exact g
            · have g := nextH h5 w5 (by rw [hdf]; show leafN h5 (u1 pr k c) (some a) = some a; unfold leafN; simp only [if_neg c5])
              have x2 : acI (some a) = nI a.1 := rfl
              rw [x2] at g ⊢
              (repeat (first | ((with_reducible apply Ok.st); (focus (first | (simp (disch := omega) only [L0, L1, L2, L3, L4, L5, L6, L7, L8, L9, L10, L11, L12, L13, L14, L15, L16, L17, L18, L19, L20, L21, L22, L23, L24, L25, L26, L27, L28, L29, L30, L31, L32, L33, L34, L35, L36, L37, L38, L39, L40, L48, L57, L59, L60, L62, L96, L97, L98, L99, L100, L104, L110, L119, L124, L500, L999, L1000, L2000, L3000, nI_add, pk_mul, pk_sub, nI_leI, nI_ltI, nI_eq, obs, u2_eq, u2_row, u2_ne, if_pos, if_neg, if_true, if_false, eq_self, ne_eq, not_true_eq_false, not_false_eq_true, l12_42 hM, l12_43 hM, l12_44 hM, s12_42 hM, h31, h32, h33, hw_sw, hw_u, hw_row, hw_47, s1, s2, s3, e21]; with_reducible exact rfl) | (with_reducible exact rfl)))) | ((with_reducible apply Ok.itT); (focus (simp (disch := omega) only [L0, L1, L2, L3, L4, L5, L6, L7, L8, L9, L10, L11, L12, L13, L14, L15, L16, L17, L18, L19, L20, L21, L22, L23, L24, L25, L26, L27, L28, L29, L30, L31, L32, L33, L34, L35, L36, L37, L38, L39, L40, L48, L57, L59, L60, L62, L96, L97, L98, L99, L100, L104, L110, L119, L124, L500, L999, L1000, L2000, L3000, nI_add, pk_mul, pk_sub, nI_leI, nI_ltI, nI_eq, obs, u2_eq, u2_row, u2_ne, if_pos, if_neg, if_true, if_false, eq_self, ne_eq, not_true_eq_false, not_false_eq_true, l12_42 hM, l12_43 hM, l12_44 hM, s12_42 hM, h31, h32, h33, hw_sw, hw_u, hw_row, hw_47, s1, s2, s3, e21] <;> omega))) | ((with_reducible apply Ok.itF); (focus (simp (disch := omega) only [L0, L1, L2, L3, L4, L5, L6, L7, L8, L9, L10, L11, L12, L13, L14, L15, L16, L17, L18, L19, L20, L21, L22, L23, L24, L25, L26, L27, L28, L29, L30, L31, L32, L33, L34, L35, L36, L37, L38, L39, L40, L48, L57, L59, L60, L62, L96, L97, L98, L99, L100, L104, L110, L119, L124, L500, L999, L1000, L2000, L3000, nI_add, pk_mul, pk_sub, nI_leI, nI_ltI, nI_eq, obs, u2_eq, u2_row, u2_ne, if_pos, if_neg, if_true, if_false, eq_self, ne_eq, not_true_eq_false, not_false_eq_true, l12_42 hM, l12_43 hM, l12_44 hM, s12_42 hM, h31, h32, h33, hw_sw, hw_u, hw_row, hw_47, s1, s2, s3, e21] <;> omega)))))
              exact g
        · obtain ⟨f', rfl⟩ : ∃ f', f = f' + 1 := ⟨f - 1, by omega⟩
          obtain ⟨d1, d2, d3, d4⟩ := hwl (k + 1) (by omega)
          have d3' : u2 I (o + 31) k (nI (c + 1)) (o + 18) (k + 1) = nI (la (k + 1)) := by rw [u2_row (by omega)]; exact d3
          have s4 := m_waitsAt (K := K) hM (h := h5) (wt := w5) (by omega : k + 1 < 6) a45 d3' (by omega) (by omega) (by omega) asd
          by_cases c4 : (la (k + 1) - h5) * sd ≤ w5
          · rw [if_pos c4] at s4
            generalize hh6 : max h5 (la (k + 1)) = h6 at s4
            generalize hw6 : w5 - (la (k + 1) - h5) * sd = w6 at s4
            have F5 : FM o [30, 31, 32, 33] [47, 48] (u2 I (o + 31) k (nI (c + 1))) (hwI o (u2 (u2 (u2 (u2 I (o + 31) k (nI (c + 1))) (o + 32) (k + 1) (nI h6)) (o + 33) (k + 1) (nI w6)) (o + 31) (k + 1) (nI 0)) h6 w6) := FM.hw (FM.st (FM.st (FM.st FM.refl (by decide)) (by decide)) (by decide)) (by decide) (by decide)
            have g := hsub f' rfl (k + 1) (by omega) 7 0 q h5 w5 (hwI o (u2 (u2 (u2 (u2 I (o + 31) k (nI (c + 1))) (o + 32) (k + 1) (nI h6)) (o + 33) (k + 1) (nI w6)) (o + 31) (k + 1) (nI 0)) h6 w6) acc (u1 pr k c) rfl (by omega) (hL.fm (F1.trans F5) (by decide) (by decide)) (fun j hj => by rw [(F1.trans F5).arr (by decide) (by decide), (F1.trans F5).arr (by decide) (by decide)]; exact hwl j hj) (by omega) (by omega) c4
              (by rw [hw_row (by omega), u2_eq]) (by rw [hw_row (by omega), u2_row (by omega), u2_row (by omega), u2_eq, hh6]) (by rw [hw_row (by omega), u2_row (by omega), u2_eq, hw6])
              (fun j hj => by rw [hw_row (by omega), u2_ne (by omega), u2_row (by omega), u2_row (by omega)]; exact hpr' j hj) (hac.congr (by rw [hw_row (by omega), u2_row (by omega), u2_row (by omega), u2_row (by omega), u2_row (by omega)])) (fun q' I' acc' k1 k2 k3 k4 k5 => ?_)
            · (repeat (first | ((with_reducible apply Ok.st); (focus (first | (simp (disch := omega) only [L0, L1, L2, L3, L4, L5, L6, L7, L8, L9, L10, L11, L12, L13, L14, L15, L16, L17, L18, L19, L20, L21, L22, L23, L24, L25, L26, L27, L28, L29, L30, L31, L32, L33, L34, L35, L36, L37, L38, L39, L40, L48, L57, L59, L60, L62, L96, L97, L98, L99, L100, L104, L110, L119, L124, L500, L999, L1000, L2000, L3000, nI_add, pk_mul, pk_sub, nI_leI, nI_ltI, nI_eq, obs, u2_eq, u2_row, u2_ne, if_pos, if_neg, if_true, if_false, eq_self, ne_eq, not_true_eq_false, not_false_eq_true, l12_42 hM, l12_43 hM, l12_44 hM, s12_42 hM, s12_43 hM, s12_44 hM, h31, h32, h33, hw_sw, hw_u, hw_row, hw_47, hw_48, s1, s2, s3, s4, e21]; with_reducible exact rfl) | (with_reducible exact rfl)))) | ((with_reducible apply Ok.itT); (focus (simp (disch := omega) only [L0, L1, L2, L3, L4, L5, L6, L7, L8, L9, L10, L11, L12, L13, L14, L15, L16, L17, L18, L19, L20, L21, L22, L23, L24, L25, L26, L27, L28, L29, L30, L31, L32, L33, L34, L35, L36, L37, L38, L39, L40, L48, L57, L59, L60, L62, L96, L97, L98, L99, L100, L104, L110, L119, L124, L500, L999, L1000, L2000, L3000, nI_add, pk_mul, pk_sub, nI_leI, nI_ltI, nI_eq, obs, u2_eq, u2_row, u2_ne, if_pos, if_neg, if_true, if_false, eq_self, ne_eq, not_true_eq_false, not_false_eq_true, l12_42 hM, l12_43 hM, l12_44 hM, s12_42 hM, s12_43 hM, s12_44 hM, h31, h32, h33, hw_sw, hw_u, hw_row, hw_47, hw_48, s1, s2, s3, s4, e21] <;> omega))) | ((with_reducible apply Ok.itF); (focus (simp (disch := omega) only [L0, L1, L2, L3, L4, L5, L6, L7, L8, L9, L10, L11, L12, L13, L14, L15, L16, L17, L18, L19, L20, L21, L22, L23, L24, L25, L26, L27, L28, L29, L30, L31, L32, L33, L34, L35, L36, L37, L38, L39, L40, L48, L57, L59, L60, L62, L96, L97, L98, L99, L100, L104, L110, L119, L124, L500, L999, L1000, L2000, L3000, nI_add, pk_mul, pk_sub, nI_leI, nI_ltI, nI_eq, obs, u2_eq, u2_row, u2_ne, if_pos, if_neg, if_true, if_false, eq_self, ne_eq, not_true_eq_false, not_false_eq_true, l12_42 hM, l12_43 hM, l12_44 hM, s12_42 hM, s12_43 hM, s12_44 hM, h31, h32, h33, hw_sw, hw_u, hw_row, hw_47, hw_48, s1, s2, s3, s4, e21] <;> omega)))))
              simp only [L1, nI_add]
              exact g
            · rw [pk_sub (by omega), Nat.add_sub_cancel]
              refine next q' I' acc' (by omega) (by rw [hdf, dfsN_S]; exact k2) (F5.trans k3) (fun j hj => ?_) k5
              obtain ⟨z1, z2, z3⟩ := k4 j hj
              rw [z1, z2, z3, hw_row (by omega), hw_row (by omega), hw_row (by omega)]
              refine ⟨?_, ?_, ?_⟩
              · rw [u2_ne (by omega), u2_row (by omega), u2_row (by omega)]
              · rw [u2_row (by omega), u2_row (by omega), u2_ne (by omega), u2_row (by omega)]
              · rw [u2_row (by omega), u2_ne (by omega), u2_row (by omega), u2_row (by omega)]
          · rw [if_neg c4] at s4
            have g := nextH h5 w5 (by rw [hdf]; exact dfs_wait (by show w5 < (la (k + 1) - h5) * sd; omega))
            (repeat (first | ((with_reducible apply Ok.st); (focus (first | (simp (disch := omega) only [L0, L1, L2, L3, L4, L5, L6, L7, L8, L9, L10, L11, L12, L13, L14, L15, L16, L17, L18, L19, L20, L21, L22, L23, L24, L25, L26, L27, L28, L29, L30, L31, L32, L33, L34, L35, L36, L37, L38, L39, L40, L48, L57, L59, L60, L62, L96, L97, L98, L99, L100, L104, L110, L119, L124, L500, L999, L1000, L2000, L3000, nI_add, pk_mul, pk_sub, nI_leI, nI_ltI, nI_eq, obs, u2_eq, u2_row, u2_ne, if_pos, if_neg, if_true, if_false, eq_self, ne_eq, not_true_eq_false, not_false_eq_true, l12_42 hM, l12_43 hM, l12_44 hM, s12_42 hM, h31, h32, h33, hw_sw, hw_u, hw_row, hw_47, s1, s2, s3, s4, e21]; with_reducible exact rfl) | (with_reducible exact rfl)))) | ((with_reducible apply Ok.itT); (focus (simp (disch := omega) only [L0, L1, L2, L3, L4, L5, L6, L7, L8, L9, L10, L11, L12, L13, L14, L15, L16, L17, L18, L19, L20, L21, L22, L23, L24, L25, L26, L27, L28, L29, L30, L31, L32, L33, L34, L35, L36, L37, L38, L39, L40, L48, L57, L59, L60, L62, L96, L97, L98, L99, L100, L104, L110, L119, L124, L500, L999, L1000, L2000, L3000, nI_add, pk_mul, pk_sub, nI_leI, nI_ltI, nI_eq, obs, u2_eq, u2_row, u2_ne, if_pos, if_neg, if_true, if_false, eq_self, ne_eq, not_true_eq_false, not_false_eq_true, l12_42 hM, l12_43 hM, l12_44 hM, s12_42 hM, h31, h32, h33, hw_sw, hw_u, hw_row, hw_47, s1, s2, s3, s4, e21] <;> omega))) | ((with_reducible apply Ok.itF); (focus (simp (disch := omega) only [L0, L1, L2, L3, L4, L5, L6, L7, L8, L9, L10, L11, L12, L13, L14, L15, L16, L17, L18, L19, L20, L21, L22, L23, L24, L25, L26, L27, L28, L29, L30, L31, L32, L33, L34, L35, L36, L37, L38, L39, L40, L48, L57, L59, L60, L62, L96, L97, L98, L99, L100, L104, L110, L119, L124, L500, L999, L1000, L2000, L3000, nI_add, pk_mul, pk_sub, nI_leI, nI_ltI, nI_eq, obs, u2_eq, u2_row, u2_ne, if_pos, if_neg, if_true, if_false, eq_self, ne_eq, not_true_eq_false, not_false_eq_true, l12_42 hM, l12_43 hM, l12_44 hM, s12_42 hM, h31, h32, h33, hw_sw, hw_u, hw_row, hw_47, s1, s2, s3, s4, e21] <;> omega)))))
            exact g
      · obtain ⟨a, b, s3⟩ := g2 (by omega)
        have hn : stp (peN la hr fu gi le th sd rm) k c h w = none := by
          unfold stp
          rw [if_neg]
          rintro ⟨-, z⟩
          have z : wayD (th (k + 1)) (lvE (peN la hr fu gi le th sd rm) k h c) (hr (k + 1)) ≤ _ := z
          rw [hlv, hfi] at z
          omega
        have g := nextH a b (dfG_none hn)
        (repeat (first | ((with_reducible apply Ok.st); (focus (first | (simp (disch := omega) only [L0, L1, L2, L3, L4, L5, L6, L7, L8, L9, L10, L11, L12, L13, L14, L15, L16, L17, L18, L19, L20, L21, L22, L23, L24, L25, L26, L27, L28, L29, L30, L31, L32, L33, L34, L35, L36, L37, L38, L39, L40, L48, L57, L59, L60, L62, L96, L97, L98, L99, L100, L104, L110, L119, L124, L500, L999, L1000, L2000, L3000, nI_add, pk_mul, pk_sub, nI_leI, nI_ltI, nI_eq, obs, u2_eq, u2_row, u2_ne, if_pos, if_neg, if_true, if_false, eq_self, ne_eq, not_true_eq_false, not_false_eq_true, l12_42 hM, l12_43 hM, l12_44 hM, s12_42 hM, h31, h32, h33, hw_sw, hw_u, hw_row, s1, s2, s3]; with_reducible exact rfl) | (with_reducible exact rfl)))) | ((with_reducible apply Ok.itT); (focus (simp (disch := omega) only [L0, L1, L2, L3, L4, L5, L6, L7, L8, L9, L10, L11, L12, L13, L14, L15, L16, L17, L18, L19, L20, L21, L22, L23, L24, L25, L26, L27, L28, L29, L30, L31, L32, L33, L34, L35, L36, L37, L38, L39, L40, L48, L57, L59, L60, L62, L96, L97, L98, L99, L100, L104, L110, L119, L124, L500, L999, L1000, L2000, L3000, nI_add, pk_mul, pk_sub, nI_leI, nI_ltI, nI_eq, obs, u2_eq, u2_row, u2_ne, if_pos, if_neg, if_true, if_false, eq_self, ne_eq, not_true_eq_false, not_false_eq_true, l12_42 hM, l12_43 hM, l12_44 hM, s12_42 hM, h31, h32, h33, hw_sw, hw_u, hw_row, s1, s2, s3] <;> omega))) | ((with_reducible apply Ok.itF); (focus (simp (disch := omega) only [L0, L1, L2, L3, L4, L5, L6, L7, L8, L9, L10, L11, L12, L13, L14, L15, L16, L17, L18, L19, L20, L21, L22, L23, L24, L25, L26, L27, L28, L29, L30, L31, L32, L33, L34, L35, L36, L37, L38, L39, L40, L48, L57, L59, L60, L62, L96, L97, L98, L99, L100, L104, L110, L119, L124, L500, L999, L1000, L2000, L3000, nI_add, pk_mul, pk_sub, nI_leI, nI_ltI, nI_eq, obs, u2_eq, u2_row, u2_ne, if_pos, if_neg, if_true, if_false, eq_self, ne_eq, not_true_eq_false, not_false_eq_true, l12_42 hM, l12_43 hM, l12_44 hM, s12_42 hM, h31, h32, h33, hw_sw, hw_u, hw_row, s1, s2, s3] <;> omega)))))
        exact g
    · rw [if_neg c2] at s1
      have hn : stp (peN la hr fu gi le th sd rm) k c h w = none := by
        unfold stp
        rw [if_neg]
        rintro ⟨z, -⟩
        have z : (lvE (peN la hr fu gi le th sd rm) k h c - h) * sd ≤ w := z
        rw [hmul] at z
        omega
      have g := nextH (max h (la k)) (w - (la k - h) * sd) (dfG_none hn)
      (repeat (first | ((with_reducible apply Ok.st); (focus (first | (simp (disch := omega) only [L0, L1, L2, L3, L4, L5, L6, L7, L8, L9, L10, L11, L12, L13, L14, L15, L16, L17, L18, L19, L20, L21, L22, L23, L24, L25, L26, L27, L28, L29, L30, L31, L32, L33, L34, L35, L36, L37, L38, L39, L40, L48, L57, L59, L60, L62, L96, L97, L98, L99, L100, L104, L110, L119, L124, L500, L999, L1000, L2000, L3000, nI_add, pk_mul, pk_sub, nI_leI, nI_ltI, nI_eq, obs, u2_eq, u2_row, u2_ne, if_pos, if_neg, if_true, if_false, eq_self, ne_eq, not_true_eq_false, not_false_eq_true, l12_42 hM, l12_43 hM, l12_44 hM, s12_42 hM, h31, h32, h33, hw_sw, hw_u, hw_row, s1]; with_reducible exact rfl) | (with_reducible exact rfl)))) | ((with_reducible apply Ok.itT); (focus (simp (disch := omega) only [L0, L1, L2, L3, L4, L5, L6, L7, L8, L9, L10, L11, L12, L13, L14, L15, L16, L17, L18, L19, L20, L21, L22, L23, L24, L25, L26, L27, L28, L29, L30, L31, L32, L33, L34, L35, L36, L37, L38, L39, L40, L48, L57, L59, L60, L62, L96, L97, L98, L99, L100, L104, L110, L119, L124, L500, L999, L1000, L2000, L3000, nI_add, pk_mul, pk_sub, nI_leI, nI_ltI, nI_eq, obs, u2_eq, u2_row, u2_ne, if_pos, if_neg, if_true, if_false, eq_self, ne_eq, not_true_eq_false, not_false_eq_true, l12_42 hM, l12_43 hM, l12_44 hM, s12_42 hM, h31, h32, h33, hw_sw, hw_u, hw_row, s1] <;> omega))) | ((with_reducible apply Ok.itF); (focus (simp (disch := omega) only [L0, L1, L2, L3, L4, L5, L6, L7, L8, L9, L10, L11, L12, L13, L14, L15, L16, L17, L18, L19, L20, L21, L22, L23, L24, L25, L26, L27, L28, L29, L30, L31, L32, L33, L34, L35, L36, L37, L38, L39, L40, L48, L57, L59, L60, L62, L96, L97, L98, L99, L100, L104, L110, L119, L124, L500, L999, L1000, L2000, L3000, nI_add, pk_mul, pk_sub, nI_leI, nI_ltI, nI_eq, obs, u2_eq, u2_row, u2_ne, if_pos, if_neg, if_true, if_false, eq_self, ne_eq, not_true_eq_false, not_false_eq_true, l12_42 hM, l12_43 hM, l12_44 hM, s12_42 hM, h31, h32, h33, hw_sw, hw_u, hw_row, s1] <;> omega)))))
      exact g
theorem m_nodeA (hM : S12 o K R) {W sd rm M : Nat} {fu gi hr le la : Nat → Nat} {th : Nat → Nat → Nat} {P : Im → Prop} (hMb : M ≤ 800000) (hW5 : W ≤ 5) : ∀ f, NodeM o K R W sd rm M fu gi hr le la th P f := by
  intro f
  induction f with
  | zero => exact m_nodeS hM hMb hW5 0 (fun f' h => by omega)
  | succ f ih => exact m_nodeS hM hMb hW5 (f + 1) (fun f' h => Nat.succ.inj h ▸ ih)
/-- the row that is best, from the hour of setting out -/
def bsR (e : PE) (W b : Nat) (t : Option Nat) (j : Nat) : Nat := if W = 0 ∨ e.rm < e.co 0 b then 0 else bestR e W (b + e.hr 0) (e.rm - e.co 0 b) t j
def bsT (e : PE) (W b : Nat) (t : Option Nat) : Prop := if e.rm < e.co 0 b then t = none else MinCB e W (b + e.hr 0) (e.rm - e.co 0 b) t
theorem bsT_ex {e : PE} (hr : e.rm < 1000000) (W b : Nat) : ∃ t, bsT e W b t := by
  unfold bsT
  by_cases q : e.rm < e.co 0 b
  · exact ⟨none, by rw [if_pos q]⟩
  · obtain ⟨t, h, -⟩ := dfs_best (e := e) hr (W := W) (h := b + e.hr 0) (w := e.rm - e.co 0 b)
    exact ⟨t, by rw [if_neg q]; exact h⟩
theorem bsT_uq {e : PE} {W b : Nat} {t t' : Option Nat} (h : bsT e W b t) (h' : bsT e W b t') : t = t' := by
  unfold bsT at h h'
  by_cases q : e.rm < e.co 0 b
  · rw [if_pos q] at h h'; rw [h, h']
  · rw [if_neg q] at h h'; exact h.uniq h'
theorem bsR_le {e : PE} {W b : Nat} {t : Option Nat} {j : Nat} : bsR e W b t j ≤ 6 := by
  unfold bsR bestR
  split
  · omega
  · split
    · omega
    · exact grN_le _ _ _ _ _
set_option maxHeartbeats 1000000 in
theorem m_find2 (hM : S12 o K R) {W sd rm M b : Nat} {fu gi hr le la : Nat → Nat} {th : Nat → Nat → Nat} {P : Im → Prop} (hMb : M ≤ 800000) (hb : b ≤ M) (hlaM : ∀ j, j < W → la j ≤ M) : ∀ (q j : Nat) (I : Im), 6 - j < q → j ≤ 6 → LaidM o I W fu gi hr th sd rm →
    (∀ j, j < W → I (o + 17) j = nI (le j) ∧ le j ≤ 99 ∧ I (o + 18) j = nI (la j) ∧ la j ≤ M) → (∀ i, i < j → I (o + 30) i = nI 0) →
    (∀ I1, FM o [30, 31, 32, 33] [47, 48] I I1 → (∀ t, bsT (peN la hr fu gi le th sd rm) W b t → ∀ j, j < W → I1 (o + 30) j = nI (bsR (peN la hr fu gi le th sd rm) W b t j)) → P I1) →
    Ok (f_X12_findBest_2 K R o q (nI b) (nI j) I) P := by
  intro q
  induction q with
  | zero => intro j I h; omega
  | succ q ih =>
    intro j I hq hj hL hwl hz kk
    unfold f_X12_findBest_2
    by_cases e : j = 6
    · subst e
      obtain ⟨a21, aW, a1, a2, a45, asd, a46, arm⟩ := hL
      have hL : LaidM o I W fu gi hr th sd rm := ⟨a21, aW, a1, a2, a45, asd, a46, arm⟩
      have FH : ∀ a b, FM o [30, 31, 32, 33] [47, 48] I (hwI o I a b) := fun a b => FM.hw FM.refl (by decide) (by decide)
      have e21 : ∀ a b, hwI o I a b o 21 = nI W := fun a b => by rw [hw_fld (by decide) (by decide)]; exact a21
      have e46 : u2 I o 47 (nI b) o 46 = nI rm := by rw [u2_ne (by decide)]; exact a46
      have none_ : ∀ a c, (∀ t, bsT (peN la hr fu gi le th sd rm) W b t → ∀ j, j < W → bsR (peN la hr fu gi le th sd rm) W b t j = 0) → P (hwI o I a c) := fun a c h0 => kk _ (FH a c) (fun t ht j hj => by rw [hw_row (by omega), hz j (by omega), h0 t ht j hj])
      by_cases c0 : W = 0
      · have g := none_ b rm (fun t ht j hj => by omega)
        (repeat (first | ((with_reducible apply Ok.st); (focus (first | (simp (disch := omega) only [L0, L1, L2, L3, L4, L5, L6, L7, L8, L9, L10, L11, L12, L13, L14, L15, L16, L17, L18, L19, L20, L21, L22, L23, L24, L25, L26, L27, L28, L29, L30, L31, L32, L33, L34, L35, L36, L37, L38, L39, L40, L48, L57, L59, L60, L62, L96, L97, L98, L99, L100, L104, L110, L119, L124, L500, L999, L1000, L2000, L3000, nI_add, pk_mul, pk_sub, nI_leI, nI_ltI, nI_eq, obs, u2_eq, u2_row, u2_ne, if_pos, if_neg, if_true, if_false, eq_self, ne_eq, not_true_eq_false, not_false_eq_true, e46, a46, hw_sw, e21]; with_reducible exact rfl) | (with_reducible exact rfl)))) | ((with_reducible apply Ok.itT); (focus (simp (disch := omega) only [L0, L1, L2, L3, L4, L5, L6, L7, L8, L9, L10, L11, L12, L13, L14, L15, L16, L17, L18, L19, L20, L21, L22, L23, L24, L25, L26, L27, L28, L29, L30, L31, L32, L33, L34, L35, L36, L37, L38, L39, L40, L48, L57, L59, L60, L62, L96, L97, L98, L99, L100, L104, L110, L119, L124, L500, L999, L1000, L2000, L3000, nI_add, pk_mul, pk_sub, nI_leI, nI_ltI, nI_eq, obs, u2_eq, u2_row, u2_ne, if_pos, if_neg, if_true, if_false, eq_self, ne_eq, not_true_eq_false, not_false_eq_true, e46, a46, hw_sw, e21] <;> omega))) | ((with_reducible apply Ok.itF); (focus (simp (disch := omega) only [L0, L1, L2, L3, L4, L5, L6, L7, L8, L9, L10, L11, L12, L13, L14, L15, L16, L17, L18, L19, L20, L21, L22, L23, L24, L25, L26, L27, L28, L29, L30, L31, L32, L33, L34, L35, L36, L37, L38, L39, L40, L48, L57, L59, L60, L62, L96, L97, L98, L99, L100, L104, L110, L119, L124, L500, L999, L1000, L2000, L3000, nI_add, pk_mul, pk_sub, nI_leI, nI_ltI, nI_eq, obs, u2_eq, u2_row, u2_ne, if_pos, if_neg, if_true, if_false, eq_self, ne_eq, not_true_eq_false, not_false_eq_true, e46, a46, hw_sw, e21] <;> omega)))))
        with_reducible exact Ok.ret g
      · obtain ⟨y16, yh, yt⟩ := a2 0 (by omega)
        obtain ⟨g1, g2⟩ := m_goesWay hM (by omega : 0 ≤ 6) y16 yh yt (by omega : b ≤ 1000000) (by omega : rm ≤ 1000000)
        by_cases c1 : wayD (th 0) b (hr 0) ≤ rm
        · have s1 := g1 c1
          generalize hh1 : b + hr 0 = h1 at s1
          generalize hw1 : rm - wayD (th 0) b (hr 0) = w1 at s1
          obtain ⟨d1, d2, d3, d4⟩ := hwl 0 (by omega)
          have s2 := m_waitsAt (K := K) hM (h := h1) (wt := w1) (by omega : 0 < 6) a45 d3 (by omega) (by omega) (by omega) asd
          have hR : ∀ t j, bsR (peN la hr fu gi le th sd rm) W b t j = bestR (peN la hr fu gi le th sd rm) W h1 w1 t j := fun t j => by
            unfold bsR
            rw [if_neg (by rintro (z | z); exact c0 z; exact absurd c1 (Nat.not_le.mpr z)), ← hh1, ← hw1]
            rfl
          have hT : ∀ t, bsT (peN la hr fu gi le th sd rm) W b t → MinCB (peN la hr fu gi le th sd rm) W h1 w1 t := fun t ht => by
            unfold bsT at ht
            rw [if_neg (show ¬ (peN la hr fu gi le th sd rm).rm < (peN la hr fu gi le th sd rm).co 0 b from Nat.not_lt.mpr c1)] at ht
            rw [← hh1, ← hw1]
            exact ht
          obtain ⟨f, hf⟩ : ∃ f, W = f + 1 := ⟨W - 1, by omega⟩
          obtain ⟨t0, m1, m2, m3⟩ := dfs_best (e := peN la hr fu gi le th sd rm) (show rm < 1000000 by omega) (W := W) (h := h1) (w := w1)
          by_cases c2 : (la 0 - h1) * sd ≤ w1
          · rw [if_pos c2] at s2
            generalize hh2 : max h1 (la 0) = h2 at s2
            generalize hw2 : w1 - (la 0 - h1) * sd = w2 at s2
            have F5 : FM o [30, 31, 32, 33] [47, 48] I (hwI o (u2 (u2 (u2 I (o + 32) 0 (nI h2)) (o + 33) 0 (nI w2)) (o + 31) 0 (nI 0)) h2 w2) := FM.hw (FM.st (FM.st (FM.st FM.refl (by decide)) (by decide)) (by decide)) (by decide) (by decide)
            have g := m_nodeA (P := P) (M := M) (le := le) (la := la) hM hMb aW f 0 (by omega) 7 0 FU h1 w1 (hwI o (u2 (u2 (u2 I (o + 32) 0 (nI h2)) (o + 33) 0 (nI w2)) (o + 31) 0 (nI 0)) h2 w2) none (fun _ => 0) rfl (FU_lt ?_) (hL.fm F5 (by decide) (by decide)) (fun j hj => by rw [F5.arr (by decide) (by decide), F5.arr (by decide) (by decide)]; exact hwl j hj) (by omega) (by omega) c2
              (by rw [hw_row (by omega), u2_eq]) (by rw [hw_row (by omega), u2_row (by omega), u2_row (by omega), u2_eq, hh2]) (by rw [hw_row (by omega), u2_row (by omega), u2_eq, hw2])
              (fun j hj => by omega) ⟨fun a ha => by (cases ha), fun j hj => by rw [hw_row (by omega), u2_row (by omega), u2_row (by omega), u2_row (by omega)]; exact hz j (by omega)⟩ (fun q' I' acc' k1 k2 k3 k4 k5 => ?_)
            · have g : Ok (f_X12_findBest_89 K R o FU (-1) (nI 0) (hwI o (u2 (u2 (u2 I (o + 32) 0 (nI h2)) (o + 33) 0 (nI w2)) (o + 31) 0 (nI 0)) h2 w2)) P := g
              rw [L0]
              (repeat (first | ((with_reducible apply Ok.st); (focus (first | (simp (disch := omega) only [L0, L1, L2, L3, L4, L5, L6, L7, L8, L9, L10, L11, L12, L13, L14, L15, L16, L17, L18, L19, L20, L21, L22, L23, L24, L25, L26, L27, L28, L29, L30, L31, L32, L33, L34, L35, L36, L37, L38, L39, L40, L48, L57, L59, L60, L62, L96, L97, L98, L99, L100, L104, L110, L119, L124, L500, L999, L1000, L2000, L3000, nI_add, pk_mul, pk_sub, nI_leI, nI_ltI, nI_eq, obs, u2_eq, u2_row, u2_ne, if_pos, if_neg, if_true, if_false, eq_self, ne_eq, not_true_eq_false, not_false_eq_true, e46, a46, hw_sw, e21, s1, s2, s12_42 hM, s12_43 hM, s12_44 hM, hw_47, hw_48, hw_u]; with_reducible exact rfl) | (with_reducible exact rfl)))) | ((with_reducible apply Ok.itT); (focus (simp (disch := omega) only [L0, L1, L2, L3, L4, L5, L6, L7, L8, L9, L10, L11, L12, L13, L14, L15, L16, L17, L18, L19, L20, L21, L22, L23, L24, L25, L26, L27, L28, L29, L30, L31, L32, L33, L34, L35, L36, L37, L38, L39, L40, L48, L57, L59, L60, L62, L96, L97, L98, L99, L100, L104, L110, L119, L124, L500, L999, L1000, L2000, L3000, nI_add, pk_mul, pk_sub, nI_leI, nI_ltI, nI_eq, obs, u2_eq, u2_row, u2_ne, if_pos, if_neg, if_true, if_false, eq_self, ne_eq, not_true_eq_false, not_false_eq_true, e46, a46, hw_sw, e21, s1, s2, s12_42 hM, s12_43 hM, s12_44 hM, hw_47, hw_48, hw_u] <;> omega))) | ((with_reducible apply Ok.itF); (focus (simp (disch := omega) only [L0, L1, L2, L3, L4, L5, L6, L7, L8, L9, L10, L11, L12, L13, L14, L15, L16, L17, L18, L19, L20, L21, L22, L23, L24, L25, L26, L27, L28, L29, L30, L31, L32, L33, L34, L35, L36, L37, L38, L39, L40, L48, L57, L59, L60, L62, L96, L97, L98, L99, L100, L104, L110, L119, L124, L500, L999, L1000, L2000, L3000, nI_add, pk_mul, pk_sub, nI_leI, nI_ltI, nI_eq, obs, u2_eq, u2_row, u2_ne, if_pos, if_neg, if_true, if_false, eq_self, ne_eq, not_true_eq_false, not_false_eq_true, e46, a46, hw_sw, e21, s1, s2, s12_42 hM, s12_43 hM, s12_44 hM, hw_47, hw_48, hw_u] <;> omega)))))
              exact g
            · rcases (by omega : f = 0 ∨ f = 1 ∨ f = 2 ∨ f = 3 ∨ f = 4) with z | z | z | z | z <;> subst z <;> decide
            · rw [← dfsN_S, ← hf] at k2
              obtain ⟨q'', rfl⟩ : ∃ q'', q' = q'' + 1 := ⟨q' - 1, by
                have : nbN (f + 1) 7 < FU := FU_lt (by rcases (by omega : f = 0 ∨ f = 1 ∨ f = 2 ∨ f = 3 ∨ f = 4) with z | z | z | z | z <;> subst z <;> decide)
                omega⟩
              unfold f_X12_findBest_89
              have n1 : nI 0 - nI 1 < (0 : Int32) := by decide
              rw [if_pos n1]
              refine Ok.ret (kk _ (F5.trans k3) (fun t ht j hj => ?_))
              rw [k5.2 j hj, hR, (hT t ht).uniq m1, ← m3 j hj, ← k2]
              cases acc' <;> rfl
          · rw [if_neg c2] at s2
            have g := none_ h1 w1 (fun t ht j hj => by
              rw [hR, (hT t ht).uniq m1, ← m3 j hj, hf, dfs_wait (by show w1 < (la 0 - h1) * sd; omega)])
            (repeat (first | ((with_reducible apply Ok.st); (focus (first | (simp (disch := omega) only [L0, L1, L2, L3, L4, L5, L6, L7, L8, L9, L10, L11, L12, L13, L14, L15, L16, L17, L18, L19, L20, L21, L22, L23, L24, L25, L26, L27, L28, L29, L30, L31, L32, L33, L34, L35, L36, L37, L38, L39, L40, L48, L57, L59, L60, L62, L96, L97, L98, L99, L100, L104, L110, L119, L124, L500, L999, L1000, L2000, L3000, nI_add, pk_mul, pk_sub, nI_leI, nI_ltI, nI_eq, obs, u2_eq, u2_row, u2_ne, if_pos, if_neg, if_true, if_false, eq_self, ne_eq, not_true_eq_false, not_false_eq_true, e46, a46, hw_sw, e21, s1, s2]; with_reducible exact rfl) | (with_reducible exact rfl)))) | ((with_reducible apply Ok.itT); (focus (simp (disch := omega) only [L0, L1, L2, L3, L4, L5, L6, L7, L8, L9, L10, L11, L12, L13, L14, L15, L16, L17, L18, L19, L20, L21, L22, L23, L24, L25, L26, L27, L28, L29, L30, L31, L32, L33, L34, L35, L36, L37, L38, L39, L40, L48, L57, L59, L60, L62, L96, L97, L98, L99, L100, L104, L110, L119, L124, L500, L999, L1000, L2000, L3000, nI_add, pk_mul, pk_sub, nI_leI, nI_ltI, nI_eq, obs, u2_eq, u2_row, u2_ne, if_pos, if_neg, if_true, if_false, eq_self, ne_eq, not_true_eq_false, not_false_eq_true, e46, a46, hw_sw, e21, s1, s2] <;> omega))) | ((with_reducible apply Ok.itF); (focus (simp (disch := omega) only [L0, L1, L2, L3, L4, L5, L6, L7, L8, L9, L10, L11, L12, L13, L14, L15, L16, L17, L18, L19, L20, L21, L22, L23, L24, L25, L26, L27, L28, L29, L30, L31, L32, L33, L34, L35, L36, L37, L38, L39, L40, L48, L57, L59, L60, L62, L96, L97, L98, L99, L100, L104, L110, L119, L124, L500, L999, L1000, L2000, L3000, nI_add, pk_mul, pk_sub, nI_leI, nI_ltI, nI_eq, obs, u2_eq, u2_row, u2_ne, if_pos, if_neg, if_true, if_false, eq_self, ne_eq, not_true_eq_false, not_false_eq_true, e46, a46, hw_sw, e21, s1, s2] <;> omega)))))
            with_reducible exact Ok.ret g
        · obtain ⟨a, c, s1⟩ := g2 (by omega)
          have g := none_ a c (fun t ht j hj => by unfold bsR; exact if_pos (Or.inr (Nat.lt_of_not_le c1)))
          (repeat (first | ((with_reducible apply Ok.st); (focus (first | (simp (disch := omega) only [L0, L1, L2, L3, L4, L5, L6, L7, L8, L9, L10, L11, L12, L13, L14, L15, L16, L17, L18, L19, L20, L21, L22, L23, L24, L25, L26, L27, L28, L29, L30, L31, L32, L33, L34, L35, L36, L37, L38, L39, L40, L48, L57, L59, L60, L62, L96, L97, L98, L99, L100, L104, L110, L119, L124, L500, L999, L1000, L2000, L3000, nI_add, pk_mul, pk_sub, nI_leI, nI_ltI, nI_eq, obs, u2_eq, u2_row, u2_ne, if_pos, if_neg, if_true, if_false, eq_self, ne_eq, not_true_eq_false, not_false_eq_true, e46, a46, hw_sw, e21, s1]; with_reducible exact rfl) | (with_reducible exact rfl)))) | ((with_reducible apply Ok.itT); (focus (simp (disch := omega) only [L0, L1, L2, L3, L4, L5, L6, L7, L8, L9, L10, L11, L12, L13, L14, L15, L16, L17, L18, L19, L20, L21, L22, L23, L24, L25, L26, L27, L28, L29, L30, L31, L32, L33, L34, L35, L36, L37, L38, L39, L40, L48, L57, L59, L60, L62, L96, L97, L98, L99, L100, L104, L110, L119, L124, L500, L999, L1000, L2000, L3000, nI_add, pk_mul, pk_sub, nI_leI, nI_ltI, nI_eq, obs, u2_eq, u2_row, u2_ne, if_pos, if_neg, if_true, if_false, eq_self, ne_eq, not_true_eq_false, not_false_eq_true, e46, a46, hw_sw, e21, s1] <;> omega))) | ((with_reducible apply Ok.itF); (focus (simp (disch := omega) only [L0, L1, L2, L3, L4, L5, L6, L7, L8, L9, L10, L11, L12, L13, L14, L15, L16, L17, L18, L19, L20, L21, L22, L23, L24, L25, L26, L27, L28, L29, L30, L31, L32, L33, L34, L35, L36, L37, L38, L39, L40, L48, L57, L59, L60, L62, L96, L97, L98, L99, L100, L104, L110, L119, L124, L500, L999, L1000, L2000, L3000, nI_add, pk_mul, pk_sub, nI_leI, nI_ltI, nI_eq, obs, u2_eq, u2_row, u2_ne, if_pos, if_neg, if_true, if_false, eq_self, ne_eq, not_true_eq_false, not_false_eq_true, e46, a46, hw_sw, e21, s1] <;> omega)))))
          with_reducible exact Ok.ret g
    · have F : FM o [30, 31, 32, 33] [47, 48] I (u2 I (o + 30) j (nI 0)) := FM.st FM.refl (by decide)
      have g := ih (j + 1) (u2 I (o + 30) j (nI 0)) (by omega) (by omega) (hL.fm F (by decide) (by decide)) (fun i hi => by rw [u2_row (by omega), u2_row (by omega)]; exact hwl i hi) (fun i hi => by
        by_cases c : i = j
        · subst c; rw [u2_eq]
        · rw [u2_ne c]; exact hz i (by omega)) (fun I1 G g1 => kk I1 (F.trans G) g1)
      (repeat (first | ((with_reducible apply Ok.st); (focus (first | (simp (disch := omega) only [L0, L1, L2, L3, L4, L5, L6, L7, L8, L9, L10, L11, L12, L13, L14, L15, L16, L17, L18, L19, L20, L21, L22, L23, L24, L25, L26, L27, L28, L29, L30, L31, L32, L33, L34, L35, L36, L37, L38, L39, L40, L48, L57, L59, L60, L62, L96, L97, L98, L99, L100, L104, L110, L119, L124, L500, L999, L1000, L2000, L3000, nI_add, pk_mul, pk_sub, nI_leI, nI_ltI, nI_eq, obs, u2_eq, u2_row, u2_ne, if_pos, if_neg, if_true, if_false, eq_self, ne_eq, not_true_eq_false, not_false_eq_true, s12_41 hM]; with_reducible exact rfl) | (with_reducible exact rfl)))) | ((with_reducible apply Ok.itT); (focus (simp (disch := omega) only [L0, L1, L2, L3, L4, L5, L6, L7, L8, L9, L10, L11, L12, L13, L14, L15, L16, L17, L18, L19, L20, L21, L22, L23, L24, L25, L26, L27, L28, L29, L30, L31, L32, L33, L34, L35, L36, L37, L38, L39, L40, L48, L57, L59, L60, L62, L96, L97, L98, L99, L100, L104, L110, L119, L124, L500, L999, L1000, L2000, L3000, nI_add, pk_mul, pk_sub, nI_leI, nI_ltI, nI_eq, obs, u2_eq, u2_row, u2_ne, if_pos, if_neg, if_true, if_false, eq_self, ne_eq, not_true_eq_false, not_false_eq_true, s12_41 hM] <;> omega))) | ((with_reducible apply Ok.itF); (focus (simp (disch := omega) only [L0, L1, L2, L3, L4, L5, L6, L7, L8, L9, L10, L11, L12, L13, L14, L15, L16, L17, L18, L19, L20, L21, L22, L23, L24, L25, L26, L27, L28, L29, L30, L31, L32, L33, L34, L35, L36, L37, L38, L39, L40, L48, L57, L59, L60, L62, L96, L97, L98, L99, L100, L104, L110, L119, L124, L500, L999, L1000, L2000, L3000, nI_add, pk_mul, pk_sub, nI_leI, nI_ltI, nI_eq, obs, u2_eq, u2_row, u2_ne, if_pos, if_neg, if_true, if_false, eq_self, ne_eq, not_true_eq_false, not_false_eq_true, s12_41 hM] <;> omega)))))
      simp only [L0, L1, nI_add]
      exact g
theorem m_findBest (hM : S12 o K R) {W sd rm M b : Nat} {fu gi hr le la : Nat → Nat} {th : Nat → Nat → Nat} {P : Im → Prop} (hMb : M ≤ 800000) (hb : b ≤ M) {I : Im} (hL : LaidM o I W fu gi hr th sd rm)
    (hwl : ∀ j, j < W → I (o + 17) j = nI (le j) ∧ le j ≤ 99 ∧ I (o + 18) j = nI (la j) ∧ la j ≤ M)
    (kk : ∀ I1, FM o [30, 31, 32, 33] [47, 48] I I1 → (∀ t, bsT (peN la hr fu gi le th sd rm) W b t → ∀ j, j < W → I1 (o + 30) j = nI (bsR (peN la hr fu gi le th sd rm) W b t j)) → P I1) :
    Ok (f_X12_findBest K R o (nI b) I) P := by
  unfold f_X12_findBest
  rw [L0]
  exact m_find2 hM hMb hb (fun j hj => (hwl j hj).2.2.2) FU 0 I (FU_lt (by omega)) (by omega) hL hwl (fun i hi => by omega) kk
end
