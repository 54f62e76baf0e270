theorem ct_zJl {β : Type} {P : β → Prop} {J : Jm} {F : Jm → Option β} {a : Nat} (h : ∀ a k, J a k = 0) (kk : ∀ J', (∀ a k, J' a k = 0) → ∃ q, F J' = some q ∧ P q) : ∃ q, Option.bind (some (zr J a 0)) F = some q ∧ P q :=
  kk _ (fun b k => by
    simp only [zr]
    split
    · rfl
    · exact h b k)
theorem ct_Rl {β : Type} {P : β → Prop} {x : Nat} {R Rb : Rf} {g : Nat → Nat → Option Nat} {F : Rf → Option β} (h : AR x R g) (hl : ∀ b, b < x → R b = Rb b) (j : Nat) (c : Option Nat) {a m : Nat} {v : Option Nat} (ha : a = x + j) (hv : v = c.map (x + ·)) (kk : ∀ R', AR x R' (u2 g j m c) → (∀ b, b < x → R' b = Rb b) → ∃ q, F R' = some q ∧ P q) : ∃ q, Option.bind (some (u2 R a m v)) F = some q ∧ P q := by
  subst ha hv
  exact kk _ (h.u j m c) (fun b hb => by rw [u2_row (by omega)]; exact hl b hb)
theorem u2_gone {g : Nat → Nat → Option Nat} {N j m : Nat} {c : Option Nat} (h : ∀ i m, N ≤ i → g i m = none) (hj : j < N) : ∀ i m', N ≤ i → u2 g j m c i m' = none := fun i m' hi => by
  rw [u2_row (by omega)]; exact h i m' hi

set_option maxRecDepth 100000 in
set_option maxHeartbeats 20000000 in
theorem X11_init_r {x : Nat} {K Kb : Sh} {I Ib : Im} {J : Jm} {R : Rf} {k : Nat → Nat × Nat} (hK : AK x K k) (hk0 : k = u1 (fun _ => (0, 0)) 0 (12, 19)) (hI : AI x I (fun _ _ => 0)) (hJ : ∀ a k, J a k = 0) (hR : AR x R (fun _ _ => none)) (hlK : ∀ b, b < x → K b = Kb b) (hlI : ∀ b, b < x → I b = Ib b) : ∃ q, f_X11_init x K (x + 1) I J R = some q ∧ (∃ k1 f1 g1, AK x q.1 k1 ∧ AI x q.2.2.1 f1 ∧ (∀ a k, q.2.2.2.1 a k = 0) ∧ AR x q.2.2.2.2 g1 ∧ (∀ i, i < 62 → k1 i = kC i) ∧ (∀ i, 62 ≤ i → k1 i = (0, 0)) ∧ (∀ i, i < 62 → ∀ m, m < 20 → rC (100 * i + m) ≠ 0 → g1 i m = some (rC (100 * i + m))) ∧ (∀ i m, nzC i m = false → f1 i m = 0) ∧ f1 1 8 = 1 ∧ (∀ t, t < 6 → f1 (50 + 2 * t) 0 = -1) ∧ g1 0 2 = none ∧ g1 8 0 = none ∧ g1 17 0 = none ∧ ∀ i m, 62 ≤ i → g1 i m = none) ∧ q.2.1 = x + 62 ∧ (∀ b, b < x → q.1 b = Kb b) ∧ (∀ b, b < x → q.2.2.1 b = Ib b) := by
  subst hk0
  unfold f_X11_init
  refine ct_K hK 1 (5, 10) rfl hlK (fun K hK hlK => ?_)
  refine ct_zI hI 1 rfl rfl hlI (fun I hI hlI => ?_)
  refine ct_zR hR 1 rfl (fun _ => rfl) (fun R hR => ?_)
  rw [f_X4_init]
  simp only [Option.bind_assoc]
  refine ct_K hK 2 (20, 100) rfl hlK (fun K hK hlK => ?_)
  refine ct_zI hI 2 rfl rfl hlI (fun I hI hlI => ?_)
  refine ct_ob hK 1 rfl rfl ?_
  refine ct_R hR 1 (some 2) rfl rfl (fun R hR => ?_)
  refine ct_K hK 3 (21, 12) rfl hlK (fun K hK hlK => ?_)
  refine ct_zI hI 3 rfl rfl hlI (fun I hI hlI => ?_)
  refine ct_ob hK 1 rfl rfl ?_
  refine ct_R hR 1 (some 3) rfl rfl (fun R hR => ?_)
  refine ct_K hK 4 (21, 12) rfl hlK (fun K hK hlK => ?_)
  refine ct_zI hI 4 rfl rfl hlI (fun I hI hlI => ?_)
  refine ct_ob hK 1 rfl rfl ?_
  refine ct_R hR 1 (some 4) rfl rfl (fun R hR => ?_)
  refine ct_K hK 5 (21, 12) rfl hlK (fun K hK hlK => ?_)
  refine ct_zI hI 5 rfl rfl hlI (fun I hI hlI => ?_)
  refine ct_ob hK 1 rfl rfl ?_
  refine ct_R hR 1 (some 5) rfl rfl (fun R hR => ?_)
  refine ct_I hI 1 rfl hlI (fun I hI hlI => ?_)
  refine ct_ret ?_
  try dsimp only
  refine ct_ob hK 0 rfl rfl ?_
  refine ct_R hR 0 (some 1) rfl rfl (fun R hR => ?_)
  refine ct_R hR 0 none rfl rfl (fun R hR => ?_)
  refine ct_K hK 6 (25, 10) rfl hlK (fun K hK hlK => ?_)
  refine ct_zR hR 6 rfl (fun _ => rfl) (fun R hR => ?_)
  refine ct_ob hK 0 rfl rfl ?_
  refine ct_R hR 0 (some 6) rfl rfl (fun R hR => ?_)
  refine ct_K hK 7 (24, 6) rfl hlK (fun K hK hlK => ?_)
  refine ct_zR hR 7 rfl (fun _ => rfl) (fun R hR => ?_)
  refine ct_ob hK 0 rfl rfl ?_
  refine ct_R hR 0 (some 7) rfl rfl (fun R hR => ?_)
  refine ct_K hK 8 (7, 7) rfl hlK (fun K hK hlK => ?_)
  refine ct_zI hI 8 rfl rfl hlI (fun I hI hlI => ?_)
  refine ct_zR hR 8 rfl (fun _ => rfl) (fun R hR => ?_)
  rw [f_X6_init]
  simp only [Option.bind_assoc]
  refine ct_ob hK 8 rfl rfl ?_
  refine ct_R hR 8 none rfl rfl (fun R hR => ?_)
  refine ct_K hK 9 (11, 4) rfl hlK (fun K hK hlK => ?_)
  refine ct_zI hI 9 rfl rfl hlI (fun I hI hlI => ?_)
  refine ct_zR hR 9 rfl (fun _ => rfl) (fun R hR => ?_)
  rw [f_X10_init]
  simp only [Option.bind_assoc]
  refine ct_K hK 10 (21, 5) rfl hlK (fun K hK hlK => ?_)
  refine ct_zI hI 10 rfl rfl hlI (fun I hI hlI => ?_)
  refine ct_ob hK 9 rfl rfl ?_
  refine ct_R hR 9 (some 10) rfl rfl (fun R hR => ?_)
  refine ct_K hK 11 (21, 5) rfl hlK (fun K hK hlK => ?_)
  refine ct_zI hI 11 rfl rfl hlI (fun I hI hlI => ?_)
  refine ct_ob hK 9 rfl rfl ?_
  refine ct_R hR 9 (some 11) rfl rfl (fun R hR => ?_)
  refine ct_K hK 12 (21, 5) rfl hlK (fun K hK hlK => ?_)
  refine ct_zI hI 12 rfl rfl hlI (fun I hI hlI => ?_)
  refine ct_ob hK 9 rfl rfl ?_
  refine ct_R hR 9 (some 12) rfl rfl (fun R hR => ?_)
  refine ct_K hK 13 (21, 5) rfl hlK (fun K hK hlK => ?_)
  refine ct_zI hI 13 rfl rfl hlI (fun I hI hlI => ?_)
  refine ct_ob hK 9 rfl rfl ?_
  refine ct_R hR 9 (some 13) rfl rfl (fun R hR => ?_)
  refine ct_ret ?_
  try dsimp only
  refine ct_ob hK 8 rfl rfl ?_
  refine ct_R hR 8 (some 9) rfl rfl (fun R hR => ?_)
  refine ct_K hK 14 (21, 5) rfl hlK (fun K hK hlK => ?_)
  refine ct_zI hI 14 rfl rfl hlI (fun I hI hlI => ?_)
  refine ct_ob hK 8 rfl rfl ?_
  refine ct_R hR 8 (some 14) rfl rfl (fun R hR => ?_)
  refine ct_K hK 15 (21, 3) rfl hlK (fun K hK hlK => ?_)
  refine ct_zI hI 15 rfl rfl hlI (fun I hI hlI => ?_)
  refine ct_ob hK 8 rfl rfl ?_
  refine ct_R hR 8 (some 15) rfl rfl (fun R hR => ?_)
  refine ct_K hK 16 (21, 5) rfl hlK (fun K hK hlK => ?_)
  refine ct_zI hI 16 rfl rfl hlI (fun I hI hlI => ?_)
  refine ct_ob hK 8 rfl rfl ?_
  refine ct_R hR 8 (some 16) rfl rfl (fun R hR => ?_)
  refine ct_ret ?_
  try dsimp only
  refine ct_ob hK 0 rfl rfl ?_
  refine ct_R hR 0 (some 8) rfl rfl (fun R hR => ?_)
  refine ct_K hK 17 (7, 7) rfl hlK (fun K hK hlK => ?_)
  refine ct_zI hI 17 rfl rfl hlI (fun I hI hlI => ?_)
  refine ct_zR hR 17 rfl (fun _ => rfl) (fun R hR => ?_)
  rw [f_X6_init]
  simp only [Option.bind_assoc]
  refine ct_ob hK 17 rfl rfl ?_
  refine ct_R hR 17 none rfl rfl (fun R hR => ?_)
  refine ct_K hK 18 (11, 4) rfl hlK (fun K hK hlK => ?_)
  refine ct_zI hI 18 rfl rfl hlI (fun I hI hlI => ?_)
  refine ct_zR hR 18 rfl (fun _ => rfl) (fun R hR => ?_)
  rw [f_X10_init]
  simp only [Option.bind_assoc]
  refine ct_K hK 19 (21, 5) rfl hlK (fun K hK hlK => ?_)
  refine ct_zI hI 19 rfl rfl hlI (fun I hI hlI => ?_)
  refine ct_ob hK 18 rfl rfl ?_
  refine ct_R hR 18 (some 19) rfl rfl (fun R hR => ?_)
  refine ct_K hK 20 (21, 5) rfl hlK (fun K hK hlK => ?_)
  refine ct_zI hI 20 rfl rfl hlI (fun I hI hlI => ?_)
  refine ct_ob hK 18 rfl rfl ?_
  refine ct_R hR 18 (some 20) rfl rfl (fun R hR => ?_)
  refine ct_K hK 21 (21, 5) rfl hlK (fun K hK hlK => ?_)
  refine ct_zI hI 21 rfl rfl hlI (fun I hI hlI => ?_)
  refine ct_ob hK 18 rfl rfl ?_
  refine ct_R hR 18 (some 21) rfl rfl (fun R hR => ?_)
  refine ct_K hK 22 (21, 5) rfl hlK (fun K hK hlK => ?_)
  refine ct_zI hI 22 rfl rfl hlI (fun I hI hlI => ?_)
  refine ct_ob hK 18 rfl rfl ?_
  refine ct_R hR 18 (some 22) rfl rfl (fun R hR => ?_)
  refine ct_ret ?_
  try dsimp only
  refine ct_ob hK 17 rfl rfl ?_
  refine ct_R hR 17 (some 18) rfl rfl (fun R hR => ?_)
  refine ct_K hK 23 (21, 5) rfl hlK (fun K hK hlK => ?_)
  refine ct_zI hI 23 rfl rfl hlI (fun I hI hlI => ?_)
  refine ct_ob hK 17 rfl rfl ?_
  refine ct_R hR 17 (some 23) rfl rfl (fun R hR => ?_)
  refine ct_K hK 24 (21, 3) rfl hlK (fun K hK hlK => ?_)
  refine ct_zI hI 24 rfl rfl hlI (fun I hI hlI => ?_)
  refine ct_ob hK 17 rfl rfl ?_
  refine ct_R hR 17 (some 24) rfl rfl (fun R hR => ?_)
  refine ct_K hK 25 (21, 5) rfl hlK (fun K hK hlK => ?_)
  refine ct_zI hI 25 rfl rfl hlI (fun I hI hlI => ?_)
  refine ct_ob hK 17 rfl rfl ?_
  refine ct_R hR 17 (some 25) rfl rfl (fun R hR => ?_)
  refine ct_ret ?_
  try dsimp only
  refine ct_ob hK 0 rfl rfl ?_
  refine ct_R hR 0 (some 17) rfl rfl (fun R hR => ?_)
  refine ct_K hK 26 (26, 6) rfl hlK (fun K hK hlK => ?_)
  refine ct_zR hR 26 rfl (fun _ => rfl) (fun R hR => ?_)
  refine ct_ob hK 0 rfl rfl ?_
  refine ct_R hR 0 (some 26) rfl rfl (fun R hR => ?_)
  refine ct_K hK 27 (1, 2) rfl hlK (fun K hK hlK => ?_)
  refine ct_zI hI 27 rfl rfl hlI (fun I hI hlI => ?_)
  refine ct_zR hR 27 rfl (fun _ => rfl) (fun R hR => ?_)
  rw [f_X0_init]
  simp only [Option.bind_assoc]
  refine ct_K hK 28 (21, 20) rfl hlK (fun K hK hlK => ?_)
  refine ct_zI hI 28 rfl rfl hlI (fun I hI hlI => ?_)
  refine ct_ob hK 27 rfl rfl ?_
  refine ct_R hR 27 (some 28) rfl rfl (fun R hR => ?_)
  refine ct_ret ?_
  try dsimp only
  refine ct_ob hK 0 rfl rfl ?_
  refine ct_R hR 0 (some 27) rfl rfl (fun R hR => ?_)
  refine ct_K hK 29 (9, 8) rfl hlK (fun K hK hlK => ?_)
  refine ct_zI hI 29 rfl rfl hlI (fun I hI hlI => ?_)
  refine ct_zR hR 29 rfl (fun _ => rfl) (fun R hR => ?_)
  rw [f_X8_init]
  simp only [Option.bind_assoc]
  refine ct_K hK 30 (21, 5) rfl hlK (fun K hK hlK => ?_)
  refine ct_zI hI 30 rfl rfl hlI (fun I hI hlI => ?_)
  refine ct_ob hK 29 rfl rfl ?_
  refine ct_R hR 29 (some 30) rfl rfl (fun R hR => ?_)
  refine ct_K hK 31 (21, 5) rfl hlK (fun K hK hlK => ?_)
  refine ct_zI hI 31 rfl rfl hlI (fun I hI hlI => ?_)
  refine ct_ob hK 29 rfl rfl ?_
  refine ct_R hR 29 (some 31) rfl rfl (fun R hR => ?_)
  refine ct_ret ?_
  try dsimp only
  refine ct_ob hK 0 rfl rfl ?_
  refine ct_R hR 0 (some 29) rfl rfl (fun R hR => ?_)
  refine ct_K hK 32 (4, 10) rfl hlK (fun K hK hlK => ?_)
  refine ct_zI hI 32 rfl rfl hlI (fun I hI hlI => ?_)
  refine ct_zR hR 32 rfl (fun _ => rfl) (fun R hR => ?_)
  rw [f_X3_init]
  simp only [Option.bind_assoc]
  refine ct_K hK 33 (21, 5) rfl hlK (fun K hK hlK => ?_)
  refine ct_zI hI 33 rfl rfl hlI (fun I hI hlI => ?_)
  refine ct_ob hK 32 rfl rfl ?_
  refine ct_R hR 32 (some 33) rfl rfl (fun R hR => ?_)
  refine ct_K hK 34 (21, 6) rfl hlK (fun K hK hlK => ?_)
  refine ct_zI hI 34 rfl rfl hlI (fun I hI hlI => ?_)
  refine ct_ob hK 32 rfl rfl ?_
  refine ct_R hR 32 (some 34) rfl rfl (fun R hR => ?_)
  refine ct_K hK 35 (21, 186) rfl hlK (fun K hK hlK => ?_)
  refine ct_zI hI 35 rfl rfl hlI (fun I hI hlI => ?_)
  refine ct_ob hK 32 rfl rfl ?_
  refine ct_R hR 32 (some 35) rfl rfl (fun R hR => ?_)
  refine ct_K hK 36 (21, 186) rfl hlK (fun K hK hlK => ?_)
  refine ct_zI hI 36 rfl rfl hlI (fun I hI hlI => ?_)
  refine ct_ob hK 32 rfl rfl ?_
  refine ct_R hR 32 (some 36) rfl rfl (fun R hR => ?_)
  refine ct_R hR 32 none rfl rfl (fun R hR => ?_)
  refine ct_R hR 32 none rfl rfl (fun R hR => ?_)
  refine ct_ret ?_
  try dsimp only
  refine ct_ob hK 0 rfl rfl ?_
  refine ct_R hR 0 (some 32) rfl rfl (fun R hR => ?_)
  refine ct_K hK 37 (3, 6) rfl hlK (fun K hK hlK => ?_)
  refine ct_zI hI 37 rfl rfl hlI (fun I hI hlI => ?_)
  refine ct_zR hR 37 rfl (fun _ => rfl) (fun R hR => ?_)
  rw [f_X2_init]
  simp only [Option.bind_assoc]
  refine ct_K hK 38 (21, 3) rfl hlK (fun K hK hlK => ?_)
  refine ct_zI hI 38 rfl rfl hlI (fun I hI hlI => ?_)
  refine ct_ob hK 37 rfl rfl ?_
  refine ct_R hR 37 (some 38) rfl rfl (fun R hR => ?_)
  refine ct_ret ?_
  try dsimp only
  refine ct_ob hK 0 rfl rfl ?_
  refine ct_R hR 0 (some 37) rfl rfl (fun R hR => ?_)
  refine ct_K hK 39 (11, 4) rfl hlK (fun K hK hlK => ?_)
  refine ct_zI hI 39 rfl rfl hlI (fun I hI hlI => ?_)
  refine ct_zR hR 39 rfl (fun _ => rfl) (fun R hR => ?_)
  rw [f_X10_init]
  simp only [Option.bind_assoc]
  refine ct_K hK 40 (21, 5) rfl hlK (fun K hK hlK => ?_)
  refine ct_zI hI 40 rfl rfl hlI (fun I hI hlI => ?_)
  refine ct_ob hK 39 rfl rfl ?_
  refine ct_R hR 39 (some 40) rfl rfl (fun R hR => ?_)
  refine ct_K hK 41 (21, 5) rfl hlK (fun K hK hlK => ?_)
  refine ct_zI hI 41 rfl rfl hlI (fun I hI hlI => ?_)
  refine ct_ob hK 39 rfl rfl ?_
  refine ct_R hR 39 (some 41) rfl rfl (fun R hR => ?_)
  refine ct_K hK 42 (21, 5) rfl hlK (fun K hK hlK => ?_)
  refine ct_zI hI 42 rfl rfl hlI (fun I hI hlI => ?_)
  refine ct_ob hK 39 rfl rfl ?_
  refine ct_R hR 39 (some 42) rfl rfl (fun R hR => ?_)
  refine ct_K hK 43 (21, 5) rfl hlK (fun K hK hlK => ?_)
  refine ct_zI hI 43 rfl rfl hlI (fun I hI hlI => ?_)
  refine ct_ob hK 39 rfl rfl ?_
  refine ct_R hR 39 (some 43) rfl rfl (fun R hR => ?_)
  refine ct_ret ?_
  try dsimp only
  refine ct_ob hK 0 rfl rfl ?_
  refine ct_R hR 0 (some 39) rfl rfl (fun R hR => ?_)
  refine ct_K hK 44 (10, 9) rfl hlK (fun K hK hlK => ?_)
  refine ct_zI hI 44 rfl rfl hlI (fun I hI hlI => ?_)
  refine ct_zR hR 44 rfl (fun _ => rfl) (fun R hR => ?_)
  rw [f_X9_init]
  simp only [Option.bind_assoc]
  refine ct_K hK 45 (21, 5) rfl hlK (fun K hK hlK => ?_)
  refine ct_zI hI 45 rfl rfl hlI (fun I hI hlI => ?_)
  refine ct_ob hK 44 rfl rfl ?_
  refine ct_R hR 44 (some 45) rfl rfl (fun R hR => ?_)
  refine ct_K hK 46 (21, 5) rfl hlK (fun K hK hlK => ?_)
  refine ct_zI hI 46 rfl rfl hlI (fun I hI hlI => ?_)
  refine ct_ob hK 44 rfl rfl ?_
  refine ct_R hR 44 (some 46) rfl rfl (fun R hR => ?_)
  refine ct_K hK 47 (21, 6) rfl hlK (fun K hK hlK => ?_)
  refine ct_zI hI 47 rfl rfl hlI (fun I hI hlI => ?_)
  refine ct_ob hK 44 rfl rfl ?_
  refine ct_R hR 44 (some 47) rfl rfl (fun R hR => ?_)
  refine ct_R hR 44 none rfl rfl (fun R hR => ?_)
  refine ct_ret ?_
  try dsimp only
  refine ct_ob hK 0 rfl rfl ?_
  refine ct_R hR 0 (some 44) rfl rfl (fun R hR => ?_)
  refine ct_K hK 48 (2, 3) rfl hlK (fun K hK hlK => ?_)
  refine ct_zI hI 48 rfl rfl hlI (fun I hI hlI => ?_)
  refine ct_zR hR 48 rfl (fun _ => rfl) (fun R hR => ?_)
  refine ct_ob hK 48 rfl rfl ?_
  rw [f_X1_init]
  simp only [Option.bind_assoc]
  refine ct_R hR 48 none rfl rfl (fun R hR => ?_)
  refine ct_ret ?_
  try dsimp only
  refine ct_ob hK 0 rfl rfl ?_
  refine ct_R hR 0 (some 48) rfl rfl (fun R hR => ?_)
  refine ct_K hK 49 (21, 5) rfl hlK (fun K hK hlK => ?_)
  refine ct_zI hI 49 rfl rfl hlI (fun I hI hlI => ?_)
  refine ct_ob hK 0 rfl rfl ?_
  refine ct_R hR 0 (some 49) rfl rfl (fun R hR => ?_)
  rw [f_X11_init_155]
  rw [if_neg (by decide)]
  have hR0 := hR
  refine ct_ob hK 0 rfl rfl ?_
  refine ct_K hK 50 (8, 3) rfl hlK (fun K hK hlK => ?_)
  refine ct_zI hI 50 rfl rfl hlI (fun I hI hlI => ?_)
  refine ct_zR hR 50 rfl (fun _ => rfl) (fun R hR => ?_)
  rw [f_X7_init]
  simp only [Option.bind_assoc]
  refine ct_ob hK 50 rfl rfl ?_
  refine ct_I hI 50 rfl hlI (fun I hI hlI => ?_)
  refine ct_K hK 51 (22, 60) rfl hlK (fun K hK hlK => ?_)
  refine ct_zJl hJ (fun J hJ => ?_)
  refine ct_ob hK 50 rfl rfl ?_
  refine ct_R hR 50 (some 51) rfl rfl (fun R hR => ?_)
  refine ct_ret ?_
  try dsimp only
  refine ct_sr (ca := 26) (cb := 8) hR0 hK hR 0 26 0 50 10 rfl rfl rfl rfl ⟨rfl, by decide, by decide⟩ rfl (fun R hR => ?_)
  rw [f_X11_init_155]
  rw [if_neg (by decide)]
  have hR0 := hR
  refine ct_ob hK 0 rfl rfl ?_
  refine ct_K hK 52 (8, 3) rfl hlK (fun K hK hlK => ?_)
  refine ct_zI hI 52 rfl rfl hlI (fun I hI hlI => ?_)
  refine ct_zR hR 52 rfl (fun _ => rfl) (fun R hR => ?_)
  rw [f_X7_init]
  simp only [Option.bind_assoc]
  refine ct_ob hK 52 rfl rfl ?_
  refine ct_I hI 52 rfl hlI (fun I hI hlI => ?_)
  refine ct_K hK 53 (22, 60) rfl hlK (fun K hK hlK => ?_)
  refine ct_zJl hJ (fun J hJ => ?_)
  refine ct_ob hK 52 rfl rfl ?_
  refine ct_R hR 52 (some 53) rfl rfl (fun R hR => ?_)
  refine ct_ret ?_
  try dsimp only
  refine ct_sr (ca := 26) (cb := 8) hR0 hK hR 0 26 1 52 10 rfl rfl rfl rfl ⟨rfl, by decide, by decide⟩ rfl (fun R hR => ?_)
  rw [f_X11_init_155]
  rw [if_neg (by decide)]
  have hR0 := hR
  refine ct_ob hK 0 rfl rfl ?_
  refine ct_K hK 54 (8, 3) rfl hlK (fun K hK hlK => ?_)
  refine ct_zI hI 54 rfl rfl hlI (fun I hI hlI => ?_)
  refine ct_zR hR 54 rfl (fun _ => rfl) (fun R hR => ?_)
  rw [f_X7_init]
  simp only [Option.bind_assoc]
  refine ct_ob hK 54 rfl rfl ?_
  refine ct_I hI 54 rfl hlI (fun I hI hlI => ?_)
  refine ct_K hK 55 (22, 60) rfl hlK (fun K hK hlK => ?_)
  refine ct_zJl hJ (fun J hJ => ?_)
  refine ct_ob hK 54 rfl rfl ?_
  refine ct_R hR 54 (some 55) rfl rfl (fun R hR => ?_)
  refine ct_ret ?_
  try dsimp only
  refine ct_sr (ca := 26) (cb := 8) hR0 hK hR 0 26 2 54 10 rfl rfl rfl rfl ⟨rfl, by decide, by decide⟩ rfl (fun R hR => ?_)
  rw [f_X11_init_155]
  rw [if_neg (by decide)]
  have hR0 := hR
  refine ct_ob hK 0 rfl rfl ?_
  refine ct_K hK 56 (8, 3) rfl hlK (fun K hK hlK => ?_)
  refine ct_zI hI 56 rfl rfl hlI (fun I hI hlI => ?_)
  refine ct_zR hR 56 rfl (fun _ => rfl) (fun R hR => ?_)
  rw [f_X7_init]
  simp only [Option.bind_assoc]
  refine ct_ob hK 56 rfl rfl ?_
  refine ct_I hI 56 rfl hlI (fun I hI hlI => ?_)
  refine ct_K hK 57 (22, 60) rfl hlK (fun K hK hlK => ?_)
  refine ct_zJl hJ (fun J hJ => ?_)
  refine ct_ob hK 56 rfl rfl ?_
  refine ct_R hR 56 (some 57) rfl rfl (fun R hR => ?_)
  refine ct_ret ?_
  try dsimp only
  refine ct_sr (ca := 26) (cb := 8) hR0 hK hR 0 26 3 56 10 rfl rfl rfl rfl ⟨rfl, by decide, by decide⟩ rfl (fun R hR => ?_)
  rw [f_X11_init_155]
  rw [if_neg (by decide)]
  have hR0 := hR
  refine ct_ob hK 0 rfl rfl ?_
  refine ct_K hK 58 (8, 3) rfl hlK (fun K hK hlK => ?_)
  refine ct_zI hI 58 rfl rfl hlI (fun I hI hlI => ?_)
  refine ct_zR hR 58 rfl (fun _ => rfl) (fun R hR => ?_)
  rw [f_X7_init]
  simp only [Option.bind_assoc]
  refine ct_ob hK 58 rfl rfl ?_
  refine ct_I hI 58 rfl hlI (fun I hI hlI => ?_)
  refine ct_K hK 59 (22, 60) rfl hlK (fun K hK hlK => ?_)
  refine ct_zJl hJ (fun J hJ => ?_)
  refine ct_ob hK 58 rfl rfl ?_
  refine ct_R hR 58 (some 59) rfl rfl (fun R hR => ?_)
  refine ct_ret ?_
  try dsimp only
  refine ct_sr (ca := 26) (cb := 8) hR0 hK hR 0 26 4 58 10 rfl rfl rfl rfl ⟨rfl, by decide, by decide⟩ rfl (fun R hR => ?_)
  rw [f_X11_init_155]
  rw [if_neg (by decide)]
  have hR0 := hR
  refine ct_ob hK 0 rfl rfl ?_
  refine ct_K hK 60 (8, 3) rfl hlK (fun K hK hlK => ?_)
  refine ct_zI hI 60 rfl rfl hlI (fun I hI hlI => ?_)
  refine ct_zR hR 60 rfl (fun _ => rfl) (fun R hR => ?_)
  rw [f_X7_init]
  simp only [Option.bind_assoc]
  refine ct_ob hK 60 rfl rfl ?_
  refine ct_I hI 60 rfl hlI (fun I hI hlI => ?_)
  refine ct_K hK 61 (22, 60) rfl hlK (fun K hK hlK => ?_)
  refine ct_zJl hJ (fun J hJ => ?_)
  refine ct_ob hK 60 rfl rfl ?_
  refine ct_R hR 60 (some 61) rfl rfl (fun R hR => ?_)
  refine ct_ret ?_
  try dsimp only
  refine ct_sr (ca := 26) (cb := 8) hR0 hK hR 0 26 5 60 10 rfl rfl rfl rfl ⟨rfl, by decide, by decide⟩ rfl (fun R hR => ?_)
  rw [f_X11_init_155]
  rw [if_pos (by decide)]
  refine ⟨_, rfl, ⟨_, _, _, hK, hI, hJ, hR, ?_, ?_, ?_, ?_, ?_, ?_, ?_, ?_, ?_, ?_⟩, rfl, hlK, hlI⟩
  · decide +kernel
  · repeat' (refine u1_big ?_ (by decide))
    exact fun _ _ => rfl
  · decide +kernel
  · repeat' (refine u2_nz ?_ (by first | exact Or.inl (by decide) | exact Or.inr rfl))
    exact fun _ _ _ => rfl
  · decide +kernel
  · decide +kernel
  · decide +kernel
  · decide +kernel
  · decide +kernel
  · repeat' (refine u2_gone ?_ (by decide))
    exact fun _ _ _ => rfl
set_option maxRecDepth 100000 in
set_option maxHeartbeats 20000000 in
theorem X12_init_r {x : Nat} {K Kb : Sh} {I Ib : Im} {J : Jm} {R Rb : Rf} {k : Nat → Nat × Nat} (hK : AK x K k) (hk0 : k = u1 (fun _ => (0, 0)) 0 (13, 73)) (hI : AI x I (fun _ _ => 0)) (hJ : ∀ a k, J a k = 0) (hR : AR x R (fun _ _ => none)) (hlK : ∀ b, b < x → K b = Kb b) (hlI : ∀ b, b < x → I b = Ib b) (hlR : ∀ b, b < x → R b = Rb b) : ∃ q, f_X12_init x K (x + 1) I J R = some q ∧ (∃ k1 f1 g1, AK x q.1 k1 ∧ AI x q.2.2.1 f1 ∧ (∀ a k, q.2.2.2.1 a k = 0) ∧ AR x q.2.2.2.2 g1 ∧ (∀ i, i < 48 → k1 i = kM i) ∧ (∀ i, 48 ≤ i → k1 i = (0, 0)) ∧ (∀ m, m < 73 → rM m ≠ 0 → g1 0 m = some (rM m)) ∧ (∀ i m, nzM i m = false → f1 i m = 0) ∧ f1 0 1 = -1 ∧ f1 0 49 = -5 ∧ f1 0 50 = -5 ∧ f1 0 59 = -1 ∧ (∀ t, t < 6 → f1 44 t = -1)) ∧ q.2.1 = x + 48 ∧ (∀ b, b < x → q.1 b = Kb b) ∧ (∀ b, b < x → q.2.2.1 b = Ib b) ∧ (∀ b, b < x → q.2.2.2.2 b = Rb b) := by
  subst hk0
  rw [f_X12_init]
  refine ct_ob hK 0 rfl rfl ?_
  refine ct_I hI 0 rfl hlI (fun I hI hlI => ?_)
  refine ct_I hI 0 rfl hlI (fun I hI hlI => ?_)
  refine ct_I hI 0 rfl hlI (fun I hI hlI => ?_)
  refine ct_I hI 0 rfl hlI (fun I hI hlI => ?_)
  refine ct_I hI 0 rfl hlI (fun I hI hlI => ?_)
  refine ct_K hK 1 (21, 100) rfl hlK (fun K hK hlK => ?_)
  refine ct_zI hI 1 rfl rfl hlI (fun I hI hlI => ?_)
  refine ct_ob hK 0 rfl rfl ?_
  refine ct_Rl hR hlR 0 (some 1) rfl rfl (fun R hR hlR => ?_)
  refine ct_K hK 2 (21, 5) rfl hlK (fun K hK hlK => ?_)
  refine ct_zI hI 2 rfl rfl hlI (fun I hI hlI => ?_)
  refine ct_ob hK 0 rfl rfl ?_
  refine ct_Rl hR hlR 0 (some 2) rfl rfl (fun R hR hlR => ?_)
  refine ct_K hK 3 (21, 60) rfl hlK (fun K hK hlK => ?_)
  refine ct_zI hI 3 rfl rfl hlI (fun I hI hlI => ?_)
  refine ct_ob hK 0 rfl rfl ?_
  refine ct_Rl hR hlR 0 (some 3) rfl rfl (fun R hR hlR => ?_)
  refine ct_K hK 4 (21, 60) rfl hlK (fun K hK hlK => ?_)
  refine ct_zI hI 4 rfl rfl hlI (fun I hI hlI => ?_)
  refine ct_ob hK 0 rfl rfl ?_
  refine ct_Rl hR hlR 0 (some 4) rfl rfl (fun R hR hlR => ?_)
  refine ct_K hK 5 (21, 60) rfl hlK (fun K hK hlK => ?_)
  refine ct_zI hI 5 rfl rfl hlI (fun I hI hlI => ?_)
  refine ct_ob hK 0 rfl rfl ?_
  refine ct_Rl hR hlR 0 (some 5) rfl rfl (fun R hR hlR => ?_)
  refine ct_K hK 6 (21, 60) rfl hlK (fun K hK hlK => ?_)
  refine ct_zI hI 6 rfl rfl hlI (fun I hI hlI => ?_)
  refine ct_ob hK 0 rfl rfl ?_
  refine ct_Rl hR hlR 0 (some 6) rfl rfl (fun R hR hlR => ?_)
  refine ct_K hK 7 (21, 60) rfl hlK (fun K hK hlK => ?_)
  refine ct_zI hI 7 rfl rfl hlI (fun I hI hlI => ?_)
  refine ct_ob hK 0 rfl rfl ?_
  refine ct_Rl hR hlR 0 (some 7) rfl rfl (fun R hR hlR => ?_)
  refine ct_K hK 8 (21, 500) rfl hlK (fun K hK hlK => ?_)
  refine ct_zI hI 8 rfl rfl hlI (fun I hI hlI => ?_)
  refine ct_ob hK 0 rfl rfl ?_
  refine ct_Rl hR hlR 0 (some 8) rfl rfl (fun R hR hlR => ?_)
  refine ct_K hK 9 (21, 101) rfl hlK (fun K hK hlK => ?_)
  refine ct_zI hI 9 rfl rfl hlI (fun I hI hlI => ?_)
  refine ct_ob hK 0 rfl rfl ?_
  refine ct_Rl hR hlR 0 (some 9) rfl rfl (fun R hR hlR => ?_)
  refine ct_I hI 0 rfl hlI (fun I hI hlI => ?_)
  refine ct_I hI 0 rfl hlI (fun I hI hlI => ?_)
  refine ct_I hI 0 rfl hlI (fun I hI hlI => ?_)
  refine ct_K hK 10 (23, 100) rfl hlK (fun K hK hlK => ?_)
  refine ct_zI hI 10 rfl rfl hlI (fun I hI hlI => ?_)
  refine ct_ob hK 0 rfl rfl ?_
  refine ct_Rl hR hlR 0 (some 10) rfl rfl (fun R hR hlR => ?_)
  refine ct_K hK 11 (21, 5) rfl hlK (fun K hK hlK => ?_)
  refine ct_zI hI 11 rfl rfl hlI (fun I hI hlI => ?_)
  refine ct_ob hK 0 rfl rfl ?_
  refine ct_Rl hR hlR 0 (some 11) rfl rfl (fun R hR hlR => ?_)
  refine ct_K hK 12 (21, 5) rfl hlK (fun K hK hlK => ?_)
  refine ct_zI hI 12 rfl rfl hlI (fun I hI hlI => ?_)
  refine ct_ob hK 0 rfl rfl ?_
  refine ct_Rl hR hlR 0 (some 12) rfl rfl (fun R hR hlR => ?_)
  refine ct_K hK 13 (21, 5) rfl hlK (fun K hK hlK => ?_)
  refine ct_zI hI 13 rfl rfl hlI (fun I hI hlI => ?_)
  refine ct_ob hK 0 rfl rfl ?_
  refine ct_Rl hR hlR 0 (some 13) rfl rfl (fun R hR hlR => ?_)
  refine ct_I hI 0 rfl hlI (fun I hI hlI => ?_)
  refine ct_K hK 14 (21, 6) rfl hlK (fun K hK hlK => ?_)
  refine ct_zI hI 14 rfl rfl hlI (fun I hI hlI => ?_)
  refine ct_ob hK 0 rfl rfl ?_
  refine ct_Rl hR hlR 0 (some 14) rfl rfl (fun R hR hlR => ?_)
  refine ct_K hK 15 (21, 6) rfl hlK (fun K hK hlK => ?_)
  refine ct_zI hI 15 rfl rfl hlI (fun I hI hlI => ?_)
  refine ct_ob hK 0 rfl rfl ?_
  refine ct_Rl hR hlR 0 (some 15) rfl rfl (fun R hR hlR => ?_)
  refine ct_K hK 16 (21, 7) rfl hlK (fun K hK hlK => ?_)
  refine ct_zI hI 16 rfl rfl hlI (fun I hI hlI => ?_)
  refine ct_ob hK 0 rfl rfl ?_
  refine ct_Rl hR hlR 0 (some 16) rfl rfl (fun R hR hlR => ?_)
  refine ct_K hK 17 (21, 6) rfl hlK (fun K hK hlK => ?_)
  refine ct_zI hI 17 rfl rfl hlI (fun I hI hlI => ?_)
  refine ct_ob hK 0 rfl rfl ?_
  refine ct_Rl hR hlR 0 (some 17) rfl rfl (fun R hR hlR => ?_)
  refine ct_K hK 18 (21, 6) rfl hlK (fun K hK hlK => ?_)
  refine ct_zI hI 18 rfl rfl hlI (fun I hI hlI => ?_)
  refine ct_ob hK 0 rfl rfl ?_
  refine ct_Rl hR hlR 0 (some 18) rfl rfl (fun R hR hlR => ?_)
  refine ct_I hI 0 rfl hlI (fun I hI hlI => ?_)
  refine ct_I hI 0 rfl hlI (fun I hI hlI => ?_)
  refine ct_I hI 0 rfl hlI (fun I hI hlI => ?_)
  refine ct_K hK 19 (21, 11) rfl hlK (fun K hK hlK => ?_)
  refine ct_zI hI 19 rfl rfl hlI (fun I hI hlI => ?_)
  refine ct_ob hK 0 rfl rfl ?_
  refine ct_Rl hR hlR 0 (some 19) rfl rfl (fun R hR hlR => ?_)
  refine ct_K hK 20 (21, 11) rfl hlK (fun K hK hlK => ?_)
  refine ct_zI hI 20 rfl rfl hlI (fun I hI hlI => ?_)
  refine ct_ob hK 0 rfl rfl ?_
  refine ct_Rl hR hlR 0 (some 20) rfl rfl (fun R hR hlR => ?_)
  refine ct_K hK 21 (21, 11) rfl hlK (fun K hK hlK => ?_)
  refine ct_zI hI 21 rfl rfl hlI (fun I hI hlI => ?_)
  refine ct_ob hK 0 rfl rfl ?_
  refine ct_Rl hR hlR 0 (some 21) rfl rfl (fun R hR hlR => ?_)
  refine ct_K hK 22 (21, 55) rfl hlK (fun K hK hlK => ?_)
  refine ct_zI hI 22 rfl rfl hlI (fun I hI hlI => ?_)
  refine ct_ob hK 0 rfl rfl ?_
  refine ct_Rl hR hlR 0 (some 22) rfl rfl (fun R hR hlR => ?_)
  refine ct_K hK 23 (21, 7) rfl hlK (fun K hK hlK => ?_)
  refine ct_zI hI 23 rfl rfl hlI (fun I hI hlI => ?_)
  refine ct_ob hK 0 rfl rfl ?_
  refine ct_Rl hR hlR 0 (some 23) rfl rfl (fun R hR hlR => ?_)
  refine ct_K hK 24 (21, 7) rfl hlK (fun K hK hlK => ?_)
  refine ct_zI hI 24 rfl rfl hlI (fun I hI hlI => ?_)
  refine ct_ob hK 0 rfl rfl ?_
  refine ct_Rl hR hlR 0 (some 24) rfl rfl (fun R hR hlR => ?_)
  refine ct_K hK 25 (21, 7) rfl hlK (fun K hK hlK => ?_)
  refine ct_zI hI 25 rfl rfl hlI (fun I hI hlI => ?_)
  refine ct_ob hK 0 rfl rfl ?_
  refine ct_Rl hR hlR 0 (some 25) rfl rfl (fun R hR hlR => ?_)
  refine ct_K hK 26 (21, 5) rfl hlK (fun K hK hlK => ?_)
  refine ct_zI hI 26 rfl rfl hlI (fun I hI hlI => ?_)
  refine ct_ob hK 0 rfl rfl ?_
  refine ct_Rl hR hlR 0 (some 26) rfl rfl (fun R hR hlR => ?_)
  refine ct_K hK 27 (21, 168) rfl hlK (fun K hK hlK => ?_)
  refine ct_zI hI 27 rfl rfl hlI (fun I hI hlI => ?_)
  refine ct_ob hK 0 rfl rfl ?_
  refine ct_Rl hR hlR 0 (some 27) rfl rfl (fun R hR hlR => ?_)
  refine ct_K hK 28 (21, 6) rfl hlK (fun K hK hlK => ?_)
  refine ct_zI hI 28 rfl rfl hlI (fun I hI hlI => ?_)
  refine ct_ob hK 0 rfl rfl ?_
  refine ct_Rl hR hlR 0 (some 28) rfl rfl (fun R hR hlR => ?_)
  refine ct_K hK 29 (21, 6) rfl hlK (fun K hK hlK => ?_)
  refine ct_zI hI 29 rfl rfl hlI (fun I hI hlI => ?_)
  refine ct_ob hK 0 rfl rfl ?_
  refine ct_Rl hR hlR 0 (some 29) rfl rfl (fun R hR hlR => ?_)
  refine ct_K hK 30 (21, 6) rfl hlK (fun K hK hlK => ?_)
  refine ct_zI hI 30 rfl rfl hlI (fun I hI hlI => ?_)
  refine ct_ob hK 0 rfl rfl ?_
  refine ct_Rl hR hlR 0 (some 30) rfl rfl (fun R hR hlR => ?_)
  refine ct_K hK 31 (21, 6) rfl hlK (fun K hK hlK => ?_)
  refine ct_zI hI 31 rfl rfl hlI (fun I hI hlI => ?_)
  refine ct_ob hK 0 rfl rfl ?_
  refine ct_Rl hR hlR 0 (some 31) rfl rfl (fun R hR hlR => ?_)
  refine ct_K hK 32 (21, 6) rfl hlK (fun K hK hlK => ?_)
  refine ct_zI hI 32 rfl rfl hlI (fun I hI hlI => ?_)
  refine ct_ob hK 0 rfl rfl ?_
  refine ct_Rl hR hlR 0 (some 32) rfl rfl (fun R hR hlR => ?_)
  refine ct_K hK 33 (21, 6) rfl hlK (fun K hK hlK => ?_)
  refine ct_zI hI 33 rfl rfl hlI (fun I hI hlI => ?_)
  refine ct_ob hK 0 rfl rfl ?_
  refine ct_Rl hR hlR 0 (some 33) rfl rfl (fun R hR hlR => ?_)
  refine ct_I hI 0 rfl hlI (fun I hI hlI => ?_)
  refine ct_I hI 0 rfl hlI (fun I hI hlI => ?_)
  refine ct_I hI 0 rfl hlI (fun I hI hlI => ?_)
  refine ct_I hI 0 rfl hlI (fun I hI hlI => ?_)
  refine ct_I hI 0 rfl hlI (fun I hI hlI => ?_)
  refine ct_I hI 0 rfl hlI (fun I hI hlI => ?_)
  refine ct_I hI 0 rfl hlI (fun I hI hlI => ?_)
  refine ct_K hK 34 (21, 3) rfl hlK (fun K hK hlK => ?_)
  refine ct_zI hI 34 rfl rfl hlI (fun I hI hlI => ?_)
  refine ct_ob hK 0 rfl rfl ?_
  refine ct_Rl hR hlR 0 (some 34) rfl rfl (fun R hR hlR => ?_)
  refine ct_K hK 35 (21, 3) rfl hlK (fun K hK hlK => ?_)
  refine ct_zI hI 35 rfl rfl hlI (fun I hI hlI => ?_)
  refine ct_ob hK 0 rfl rfl ?_
  refine ct_Rl hR hlR 0 (some 35) rfl rfl (fun R hR hlR => ?_)
  refine ct_K hK 36 (21, 3) rfl hlK (fun K hK hlK => ?_)
  refine ct_zI hI 36 rfl rfl hlI (fun I hI hlI => ?_)
  refine ct_ob hK 0 rfl rfl ?_
  refine ct_Rl hR hlR 0 (some 36) rfl rfl (fun R hR hlR => ?_)
  refine ct_K hK 37 (21, 3) rfl hlK (fun K hK hlK => ?_)
  refine ct_zI hI 37 rfl rfl hlI (fun I hI hlI => ?_)
  refine ct_ob hK 0 rfl rfl ?_
  refine ct_Rl hR hlR 0 (some 37) rfl rfl (fun R hR hlR => ?_)
  refine ct_I hI 0 rfl hlI (fun I hI hlI => ?_)
  refine ct_I hI 0 rfl hlI (fun I hI hlI => ?_)
  refine ct_I hI 0 rfl hlI (fun I hI hlI => ?_)
  refine ct_I hI 0 rfl hlI (fun I hI hlI => ?_)
  refine ct_I hI 0 rfl hlI (fun I hI hlI => ?_)
  refine ct_I hI 0 rfl hlI (fun I hI hlI => ?_)
  refine ct_K hK 38 (21, 5) rfl hlK (fun K hK hlK => ?_)
  refine ct_zI hI 38 rfl rfl hlI (fun I hI hlI => ?_)
  refine ct_ob hK 0 rfl rfl ?_
  refine ct_Rl hR hlR 0 (some 38) rfl rfl (fun R hR hlR => ?_)
  refine ct_K hK 39 (21, 5) rfl hlK (fun K hK hlK => ?_)
  refine ct_zI hI 39 rfl rfl hlI (fun I hI hlI => ?_)
  refine ct_ob hK 0 rfl rfl ?_
  refine ct_Rl hR hlR 0 (some 39) rfl rfl (fun R hR hlR => ?_)
  refine ct_K hK 40 (21, 5) rfl hlK (fun K hK hlK => ?_)
  refine ct_zI hI 40 rfl rfl hlI (fun I hI hlI => ?_)
  refine ct_ob hK 0 rfl rfl ?_
  refine ct_Rl hR hlR 0 (some 40) rfl rfl (fun R hR hlR => ?_)
  refine ct_K hK 41 (21, 3) rfl hlK (fun K hK hlK => ?_)
  refine ct_zI hI 41 rfl rfl hlI (fun I hI hlI => ?_)
  refine ct_ob hK 0 rfl rfl ?_
  refine ct_Rl hR hlR 0 (some 41) rfl rfl (fun R hR hlR => ?_)
  refine ct_K hK 42 (21, 5) rfl hlK (fun K hK hlK => ?_)
  refine ct_zI hI 42 rfl rfl hlI (fun I hI hlI => ?_)
  refine ct_ob hK 0 rfl rfl ?_
  refine ct_Rl hR hlR 0 (some 42) rfl rfl (fun R hR hlR => ?_)
  refine ct_I hI 0 rfl hlI (fun I hI hlI => ?_)
  refine ct_K hK 43 (21, 20) rfl hlK (fun K hK hlK => ?_)
  refine ct_zI hI 43 rfl rfl hlI (fun I hI hlI => ?_)
  refine ct_ob hK 0 rfl rfl ?_
  refine ct_Rl hR hlR 0 (some 43) rfl rfl (fun R hR hlR => ?_)
  refine ct_K hK 44 (21, 6) rfl hlK (fun K hK hlK => ?_)
  refine ct_zI hI 44 rfl rfl hlI (fun I hI hlI => ?_)
  refine ct_si hK hI 44 0 rfl rfl ⟨rfl, by decide, by decide⟩ hlI (fun I hI hlI => ?_)
  refine ct_si hK hI 44 1 rfl rfl ⟨rfl, by decide, by decide⟩ hlI (fun I hI hlI => ?_)
  refine ct_si hK hI 44 2 rfl rfl ⟨rfl, by decide, by decide⟩ hlI (fun I hI hlI => ?_)
  refine ct_si hK hI 44 3 rfl rfl ⟨rfl, by decide, by decide⟩ hlI (fun I hI hlI => ?_)
  refine ct_si hK hI 44 4 rfl rfl ⟨rfl, by decide, by decide⟩ hlI (fun I hI hlI => ?_)
  refine ct_si hK hI 44 5 rfl rfl ⟨rfl, by decide, by decide⟩ hlI (fun I hI hlI => ?_)
  refine ct_ob hK 0 rfl rfl ?_
  refine ct_Rl hR hlR 0 (some 44) rfl rfl (fun R hR hlR => ?_)
  refine ct_K hK 45 (21, 6) rfl hlK (fun K hK hlK => ?_)
  refine ct_zI hI 45 rfl rfl hlI (fun I hI hlI => ?_)
  refine ct_ob hK 0 rfl rfl ?_
  refine ct_Rl hR hlR 0 (some 45) rfl rfl (fun R hR hlR => ?_)
  refine ct_K hK 46 (22, 360) rfl hlK (fun K hK hlK => ?_)
  refine ct_zJl hJ (fun J hJ => ?_)
  refine ct_ob hK 0 rfl rfl ?_
  refine ct_Rl hR hlR 0 (some 46) rfl rfl (fun R hR hlR => ?_)
  refine ct_K hK 47 (22, 60) rfl hlK (fun K hK hlK => ?_)
  refine ct_zJl hJ (fun J hJ => ?_)
  refine ct_ob hK 0 rfl rfl ?_
  refine ct_Rl hR hlR 0 (some 47) rfl rfl (fun R hR hlR => ?_)
  refine ⟨_, rfl, ⟨_, _, _, hK, hI, hJ, hR, ?_, ?_, ?_, ?_, ?_, ?_, ?_, ?_, ?_⟩, rfl, hlK, hlI, hlR⟩
  · decide +kernel
  · repeat' (refine u1_big ?_ (by decide))
    exact fun _ _ => rfl
  · decide +kernel
  · repeat' (refine u2_nz ?_ (by first | exact Or.inl (by decide) | exact Or.inr rfl))
    exact fun _ _ _ => rfl
  · decide +kernel
  · decide +kernel
  · decide +kernel
  · decide +kernel
  · decide +kernel
