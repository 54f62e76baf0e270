def acS (nm x : Int32) : Int32 × List Nat := (x + nm, [10])
def acN (nm x : Int32) : Int32 × List Nat := ((acS nm (x * 3)).1, 30 :: (acS nm (x * 3)).2)
def acSt (kd : Nat) (nm v x : Int32) : Int32 × List Nat := if kd = 2 then acN nm x else if kd = 4 then (-(acS nm x).1, 50 :: (acS nm x).2) else if kd = 6 then ((acN nm x).1 ^^^ v, 71 :: (acN nm x).2) else acS nm x
def acD (kd : Nat) (nm v x : Int32) : Int32 × List Nat := ((acSt kd nm v x).1 - v, 11 :: (acSt kd nm v x).2)
def acW (kd : Nat) (nm v x : Int32) : Int32 × List Nat := ((acD kd nm v x).1 ^^^ 6, 20 :: (acD kd nm v x).2)
def acDr (kd : Nat) (nm v x : Int32) : Int32 × List Nat := if kd = 1 ∨ kd = 5 then acW kd nm v x else if kd = 4 then ((acW kd nm v (x + 1)).1, 51 :: (acW kd nm v (x + 1)).2) else if kd = 6 then ((acD kd nm v x).1 + (acN nm 2).1, 70 :: ((acD kd nm v x).2 ++ (acN nm 2).2)) else acD kd nm v x
def acT (kd : Nat) (nm v x : Int32) : Int32 × List Nat := ((acDr kd nm v x).1 * 2, 12 :: (acDr kd nm v x).2)
def acTe (kd : Nat) (nm v x : Int32) : Int32 × List Nat := if kd = 3 then ((acT kd nm v x).1 + (acDr kd nm v 1).1, 40 :: ((acT kd nm v x).2 ++ (acDr kd nm v 1).2)) else if kd = 5 then ((acT kd nm v (x - nm)).1, 60 :: (acT kd nm v (x - nm)).2) else acT kd nm v x
section
variable {kd : Nat} {nm v y : Int32}
theorem acSt_l : (acSt kd nm v y).2.length ≤ 3 := by
  unfold acSt acN acS
  split
  · simp
  · split
    · simp
    · split <;> simp
theorem acD_l : (acD kd nm v y).2.length ≤ 4 := by
  have := acSt_l (kd := kd) (nm := nm) (v := v) (y := y)
  unfold acD
  simp only [List.length_cons]
  omega
theorem acW_l : (acW kd nm v y).2.length ≤ 5 := by
  have := acD_l (kd := kd) (nm := nm) (v := v) (y := y)
  unfold acW
  simp only [List.length_cons]
  omega
theorem acDr_l : (acDr kd nm v y).2.length ≤ 7 := by
  have := acD_l (kd := kd) (nm := nm) (v := v) (y := y)
  have := acW_l (kd := kd) (nm := nm) (v := v) (y := y)
  have := acW_l (kd := kd) (nm := nm) (v := v) (y := y + 1)
  unfold acDr
  split
  · omega
  · split
    · simp only [List.length_cons]; omega
    · split
      · simp only [List.length_cons, List.length_append]
        have : (acN nm 2).2.length = 2 := rfl
        omega
      · omega
theorem acT_l : (acT kd nm v y).2.length ≤ 8 := by
  have := acDr_l (kd := kd) (nm := nm) (v := v) (y := y)
  unfold acT
  simp only [List.length_cons]
  omega
theorem acTe_l : (acTe kd nm v y).2.length ≤ 16 := by
  have := acT_l (kd := kd) (nm := nm) (v := v) (y := y)
  have := acT_l (kd := kd) (nm := nm) (v := v) (y := y - nm)
  have := acDr_l (kd := kd) (nm := nm) (v := v) (y := 1)
  unfold acTe
  split
  · simp only [List.length_cons, List.length_append]; omega
  · split
    · simp only [List.length_cons]; omega
    · omega
end
def ActH (Z : Nat → Nat) (x a kd : Nat) (nm v : Int32) (K : Sh) (I : Im) (R : Rf) : Prop := S0 (x + 27) K R ∧ ZZ Z x K I ∧ K a = (6, 5) ∧ x + 110 ≤ a ∧ I a 0 = nI kd ∧ I a 1 = nm ∧ I a 2 = v ∧ kd ≤ 6
section
variable {Z : Nat → Nat} {x a kd k w d lvl : Nat} {kI wI lI nm v y : Int32} {K : Sh} {I : Im} {R : Rf} {l : List Nat}
theorem ActH.z (h : ActH Z x a kd nm v K I R) (l : List Nat) : ZZ Z x K (ntL (x + 28) (x + 27) 1 I l) := h.2.1.of (fun z hz => ntL_row (by omega) (by omega))
theorem ActH.o1 (h : ActH Z x a kd nm v K I R) : ob K 1 (some (x + 27)) = some (x + 27) := ob_ok (by rw [h.1.1])
theorem ActH.o6 (h : ActH Z x a kd nm v K I R) : ob K 6 (some a) = some a := ob_ok (by rw [h.2.2.1])
theorem ActH.i (h : ActH Z x a kd nm v K I R) (l : List Nat) : ntL (x + 28) (x + 27) 1 I l a = I a := ntL_row (by have := h.2.2.2.1; omega) (by have := h.2.2.2.1; omega)
theorem pf10 (h : ActH Z x a kd nm v K I R) (hkI : kI = nI k) (hwI : wI = nI w) (hlI : lI = nI lvl) (hk : k ≤ 6) (hw : w ≤ 2) (hb : bT k w = 10) (hl : lvl ≤ 20) (hll : l.length ≤ 200) : F_X0_PF Z K R (d + 1) (some (x + 27)) (some a) kI wI y lI (ntL (x + 28) (x + 27) 1 I l) = some ((acS nm y).1, ntL (x + 28) (x + 27) 1 I (l ++ (acS nm y).2)) := by
  subst hkI hwI hlI
  show f_X0_perform_0 Z K R (F_X0_PF Z K R d) _ _ _ _ _ _ _ = _
  unfold f_X0_perform_0
  rw [if_pos (show nI lvl ≤ 20 by rw [L20, nI_leI (by omega) (by omega)]; exact hl), bo_all (h.z l) hk hw, hb, obs, h.o1, obs, c_note h.1 (by omega), obs, if_pos (show nI 10 = 10 from rfl), h.o6, obs, h.i, h.2.2.2.2.2.1]
  rfl
theorem pf30 (h : ActH Z x a kd nm v K I R) (hkI : kI = nI k) (hwI : wI = nI w) (hlI : lI = nI lvl) (hk : k ≤ 6) (hw : w ≤ 2) (hb : bT k w = 30) (hl : lvl ≤ 19) (hll : l.length ≤ 190) : F_X0_PF Z K R (d + 2) (some (x + 27)) (some a) kI wI y lI (ntL (x + 28) (x + 27) 1 I l) = some ((acN nm y).1, ntL (x + 28) (x + 27) 1 I (l ++ (acN nm y).2)) := by
  subst hkI hwI hlI
  show f_X0_perform_0 Z K R (F_X0_PF Z K R (d + 1)) _ _ _ _ _ _ _ = _
  unfold f_X0_perform_0
  rw [if_pos (show nI lvl ≤ 20 by rw [L20, nI_leI (by omega) (by omega)]; omega), bo_all (h.z l) hk hw, hb, obs, h.o1, obs, c_note h.1 (by omega), obs, if_neg (show ¬ nI 30 = 10 by decide), if_neg (show ¬ nI 30 = 11 by decide), if_neg (show ¬ nI 30 = 12 by decide), if_neg (show ¬ nI 30 = 20 by decide), if_pos (show nI 30 = 30 from rfl),
    pf10 (kI := 0) (wI := 0) (k := 0) (w := 0) (lvl := lvl + 1) h rfl rfl (by rw [L1, nI_add]) (by omega) (by omega) (by decide) (by omega) (by simp; omega), obs, List.append_assoc]
  rfl
theorem pfS (h : ActH Z x a kd nm v K I R) (hwI : wI = nI 0) (hlI : lI = nI lvl) (hl : lvl ≤ 18) (hll : l.length ≤ 180) : F_X0_PF Z K R (d + 3) (some (x + 27)) (some a) (nI kd) wI y lI (ntL (x + 28) (x + 27) 1 I l) = some ((acSt kd nm v y).1, ntL (x + 28) (x + 27) 1 I (l ++ (acSt kd nm v y).2)) := by
  have hk := h.2.2.2.2.2.2.2
  unfold acSt
  by_cases c2 : kd = 2
  · rw [if_pos c2]
    exact pf30 (d := d + 1) h rfl hwI hlI hk (by omega) (by rw [c2]; rfl) (by omega) (by omega)
  by_cases c4 : kd = 4
  · rw [if_neg c2, if_pos c4]
    subst hwI hlI
    show f_X0_perform_0 Z K R (F_X0_PF Z K R (d + 2)) _ _ _ _ _ _ _ = _
    unfold f_X0_perform_0
    rw [if_pos (show nI lvl ≤ 20 by rw [L20, nI_leI (by omega) (by omega)]; omega), bo_all (h.z l) hk (by omega), show bT kd 0 = 50 by rw [c4]; rfl, obs, h.o1, obs, c_note h.1 (by omega), obs, if_neg (show ¬ nI 50 = 10 by decide), if_neg (show ¬ nI 50 = 11 by decide), if_neg (show ¬ nI 50 = 12 by decide), if_neg (show ¬ nI 50 = 20 by decide), if_neg (show ¬ nI 50 = 30 by decide), if_neg (show ¬ nI 50 = 40 by decide), if_pos (show nI 50 = 50 from rfl),
      pf10 (d := d + 1) (kI := 1) (wI := 0) (k := 1) (w := 0) (lvl := lvl + 1) h rfl rfl (by rw [L1, nI_add]) (by omega) (by omega) (by decide) (by omega) (by simp; omega), obs, List.append_assoc]
    rfl
  by_cases c6 : kd = 6
  · rw [if_neg c2, if_neg c4, if_pos c6]
    subst hwI hlI
    show f_X0_perform_0 Z K R (F_X0_PF Z K R (d + 2)) _ _ _ _ _ _ _ = _
    unfold f_X0_perform_0
    rw [if_pos (show nI lvl ≤ 20 by rw [L20, nI_leI (by omega) (by omega)]; omega), bo_all (h.z l) hk (by omega), show bT kd 0 = 71 by rw [c6]; rfl, obs, h.o1, obs, c_note h.1 (by omega), obs, if_neg (show ¬ nI 71 = 10 by decide), if_neg (show ¬ nI 71 = 11 by decide), if_neg (show ¬ nI 71 = 12 by decide), if_neg (show ¬ nI 71 = 20 by decide), if_neg (show ¬ nI 71 = 30 by decide), if_neg (show ¬ nI 71 = 40 by decide), if_neg (show ¬ nI 71 = 50 by decide), if_neg (show ¬ nI 71 = 51 by decide), if_neg (show ¬ nI 71 = 60 by decide), if_neg (show ¬ nI 71 = 70 by decide), if_pos (show nI 71 = 71 from rfl),
      pf30 (d := d) (kI := 2) (wI := 0) (k := 2) (w := 0) (lvl := lvl + 1) h rfl rfl (by rw [L1, nI_add]) (by omega) (by omega) (by decide) (by omega) (by simp; omega), obs, h.o6, obs]
    dsimp only
    rw [h.i, h.2.2.2.2.2.2.1, List.append_assoc]
    rfl
  · rw [if_neg c2, if_neg c4, if_neg c6]
    refine pf10 (d := d + 2) h rfl hwI hlI hk (by omega) ?_ (by omega) (by omega)
    have : ∀ k, k < 7 → k ≠ 2 → k ≠ 4 → k ≠ 6 → bT k 0 = 10 := by decide
    exact this kd (by omega) c2 c4 c6
theorem pf11 (h : ActH Z x a kd nm v K I R) (hkI : kI = nI k) (hwI : wI = nI w) (hlI : lI = nI lvl) (hk : k ≤ 6) (hw : w ≤ 2) (hb : bT k w = 11) (hl : lvl ≤ 17) (hll : l.length ≤ 170) : F_X0_PF Z K R (d + 4) (some (x + 27)) (some a) kI wI y lI (ntL (x + 28) (x + 27) 1 I l) = some ((acD kd nm v y).1, ntL (x + 28) (x + 27) 1 I (l ++ (acD kd nm v y).2)) := by
  subst hkI hwI hlI
  show f_X0_perform_0 Z K R (F_X0_PF Z K R (d + 3)) _ _ _ _ _ _ _ = _
  unfold f_X0_perform_0
  rw [if_pos (show nI lvl ≤ 20 by rw [L20, nI_leI (by omega) (by omega)]; omega), bo_all (h.z l) hk hw, hb, obs, h.o1, obs, c_note h.1 (by omega), obs, if_neg (show ¬ nI 11 = 10 by decide), if_pos (show nI 11 = 11 from rfl), h.o6, obs, h.i, h.2.2.2.2.1,
    pfS (d := d) (wI := 0) (lvl := lvl + 1) h rfl (by rw [L1, nI_add]) (by omega) (by simp; omega), obs]
  dsimp only
  rw [h.i, h.2.2.2.2.2.2.1, List.append_assoc]
  rfl
theorem pf20 (h : ActH Z x a kd nm v K I R) (hkI : kI = nI k) (hwI : wI = nI w) (hlI : lI = nI lvl) (hk : k ≤ 6) (hw : w ≤ 2) (hb : bT k w = 20) (hl : lvl ≤ 16) (hll : l.length ≤ 160) : F_X0_PF Z K R (d + 5) (some (x + 27)) (some a) kI wI y lI (ntL (x + 28) (x + 27) 1 I l) = some ((acW kd nm v y).1, ntL (x + 28) (x + 27) 1 I (l ++ (acW kd nm v y).2)) := by
  subst hkI hwI hlI
  show f_X0_perform_0 Z K R (F_X0_PF Z K R (d + 4)) _ _ _ _ _ _ _ = _
  unfold f_X0_perform_0
  rw [if_pos (show nI lvl ≤ 20 by rw [L20, nI_leI (by omega) (by omega)]; omega), bo_all (h.z l) hk hw, hb, obs, h.o1, obs, c_note h.1 (by omega), obs, if_neg (show ¬ nI 20 = 10 by decide), if_neg (show ¬ nI 20 = 11 by decide), if_neg (show ¬ nI 20 = 12 by decide), if_pos (show nI 20 = 20 from rfl),
    pf11 (d := d) (kI := 0) (wI := 1) (k := 0) (w := 1) (lvl := lvl + 1) h rfl rfl (by rw [L1, nI_add]) (by omega) (by omega) (by decide) (by omega) (by simp; omega), obs, List.append_assoc]
  rfl
theorem pfD (h : ActH Z x a kd nm v K I R) (hwI : wI = nI 1) (hlI : lI = nI lvl) (hl : lvl ≤ 15) (hll : l.length ≤ 150) : F_X0_PF Z K R (d + 6) (some (x + 27)) (some a) (nI kd) wI y lI (ntL (x + 28) (x + 27) 1 I l) = some ((acDr kd nm v y).1, ntL (x + 28) (x + 27) 1 I (l ++ (acDr kd nm v y).2)) := by
  have hk := h.2.2.2.2.2.2.2
  unfold acDr
  by_cases c2 : kd = 1 ∨ kd = 5
  · rw [if_pos c2]
    exact pf20 (d := d + 1) h rfl hwI hlI hk (by omega) (by rcases c2 with c | c <;> rw [c] <;> rfl) (by omega) (by omega)
  by_cases c4 : kd = 4
  · rw [if_neg c2, if_pos c4]
    subst hwI hlI
    show f_X0_perform_0 Z K R (F_X0_PF Z K R (d + 5)) _ _ _ _ _ _ _ = _
    unfold f_X0_perform_0
    rw [if_pos (show nI lvl ≤ 20 by rw [L20, nI_leI (by omega) (by omega)]; omega), bo_all (h.z l) hk (by omega), show bT kd 1 = 51 by rw [c4]; rfl, obs, h.o1, obs, c_note h.1 (by omega), obs, if_neg (show ¬ nI 51 = 10 by decide), if_neg (show ¬ nI 51 = 11 by decide), if_neg (show ¬ nI 51 = 12 by decide), if_neg (show ¬ nI 51 = 20 by decide), if_neg (show ¬ nI 51 = 30 by decide), if_neg (show ¬ nI 51 = 40 by decide), if_neg (show ¬ nI 51 = 50 by decide), if_pos (show nI 51 = 51 from rfl),
      pf20 (d := d) (kI := 1) (wI := 1) (k := 1) (w := 1) (lvl := lvl + 1) h rfl rfl (by rw [L1, nI_add]) (by omega) (by omega) (by decide) (by omega) (by simp; omega), obs, List.append_assoc]
    rfl
  by_cases c6 : kd = 6
  · rw [if_neg c2, if_neg c4, if_pos c6]
    subst hwI hlI
    have pl := acD_l (kd := kd) (nm := nm) (v := v) (y := y)
    show f_X0_perform_0 Z K R (F_X0_PF Z K R (d + 5)) _ _ _ _ _ _ _ = _
    unfold f_X0_perform_0
    rw [if_pos (show nI lvl ≤ 20 by rw [L20, nI_leI (by omega) (by omega)]; omega), bo_all (h.z l) hk (by omega), show bT kd 1 = 70 by rw [c6]; rfl, obs, h.o1, obs, c_note h.1 (by omega), obs, if_neg (show ¬ nI 70 = 10 by decide), if_neg (show ¬ nI 70 = 11 by decide), if_neg (show ¬ nI 70 = 12 by decide), if_neg (show ¬ nI 70 = 20 by decide), if_neg (show ¬ nI 70 = 30 by decide), if_neg (show ¬ nI 70 = 40 by decide), if_neg (show ¬ nI 70 = 50 by decide), if_neg (show ¬ nI 70 = 51 by decide), if_neg (show ¬ nI 70 = 60 by decide), if_pos (show nI 70 = 70 from rfl),
      pf11 (d := d + 1) (kI := 2) (wI := 1) (k := 2) (w := 1) (lvl := lvl + 1) h rfl rfl (by rw [L1, nI_add]) (by omega) (by omega) (by decide) (by omega) (by simp; omega), obs,
      pf30 (d := d + 3) (kI := 2) (wI := 0) (k := 2) (w := 0) (lvl := lvl + 1) h rfl rfl (by rw [L1, nI_add]) (by omega) (by omega) (by decide) (by omega) (by simp only [List.length_append, List.length_cons, List.length_nil]; omega), obs, List.append_assoc, List.append_assoc]
    rfl
  · rw [if_neg c2, if_neg c4, if_neg c6]
    refine pf11 (d := d + 2) h rfl hwI hlI hk (by omega) ?_ (by omega) (by omega)
    have : ∀ k, k < 7 → ¬ (k = 1 ∨ k = 5) → k ≠ 4 → k ≠ 6 → bT k 1 = 11 := by decide
    exact this kd (by omega) c2 c4 c6
theorem pf12 (h : ActH Z x a kd nm v K I R) (hkI : kI = nI k) (hwI : wI = nI w) (hlI : lI = nI lvl) (hk : k ≤ 6) (hw : w ≤ 2) (hb : bT k w = 12) (hl : lvl ≤ 14) (hll : l.length ≤ 140) : F_X0_PF Z K R (d + 7) (some (x + 27)) (some a) kI wI y lI (ntL (x + 28) (x + 27) 1 I l) = some ((acT kd nm v y).1, ntL (x + 28) (x + 27) 1 I (l ++ (acT kd nm v y).2)) := by
  subst hkI hwI hlI
  show f_X0_perform_0 Z K R (F_X0_PF Z K R (d + 6)) _ _ _ _ _ _ _ = _
  unfold f_X0_perform_0
  rw [if_pos (show nI lvl ≤ 20 by rw [L20, nI_leI (by omega) (by omega)]; omega), bo_all (h.z l) hk hw, hb, obs, h.o1, obs, c_note h.1 (by omega), obs, if_neg (show ¬ nI 12 = 10 by decide), if_neg (show ¬ nI 12 = 11 by decide), if_pos (show nI 12 = 12 from rfl), h.o6, obs, h.i, h.2.2.2.2.1,
    pfD (d := d) (wI := 1) (lvl := lvl + 1) h rfl (by rw [L1, nI_add]) (by omega) (by simp; omega), obs, List.append_assoc]
  rfl
theorem pfT (h : ActH Z x a kd nm v K I R) (hwI : wI = nI 2) (hlI : lI = nI lvl) (hl : lvl ≤ 13) (hll : l.length ≤ 100) : F_X0_PF Z K R (d + 8) (some (x + 27)) (some a) (nI kd) wI y lI (ntL (x + 28) (x + 27) 1 I l) = some ((acTe kd nm v y).1, ntL (x + 28) (x + 27) 1 I (l ++ (acTe kd nm v y).2)) := by
  have hk := h.2.2.2.2.2.2.2
  unfold acTe
  by_cases c3 : kd = 3
  · rw [if_pos c3]
    subst hwI hlI
    have pl := acT_l (kd := kd) (nm := nm) (v := v) (y := y)
    show f_X0_perform_0 Z K R (F_X0_PF Z K R (d + 7)) _ _ _ _ _ _ _ = _
    unfold f_X0_perform_0
    rw [if_pos (show nI lvl ≤ 20 by rw [L20, nI_leI (by omega) (by omega)]; omega), bo_all (h.z l) hk (by omega), show bT kd 2 = 40 by rw [c3]; rfl, obs, h.o1, obs, c_note h.1 (by omega), obs, if_neg (show ¬ nI 40 = 10 by decide), if_neg (show ¬ nI 40 = 11 by decide), if_neg (show ¬ nI 40 = 12 by decide), if_neg (show ¬ nI 40 = 20 by decide), if_neg (show ¬ nI 40 = 30 by decide), if_pos (show nI 40 = 40 from rfl),
      pf12 (d := d) (kI := 0) (wI := 2) (k := 0) (w := 2) (lvl := lvl + 1) h rfl rfl (by rw [L1, nI_add]) (by omega) (by omega) (by decide) (by omega) (by simp; omega), obs, h.o6, obs]
    dsimp only
    rw [h.i, h.2.2.2.2.1,
      pfD (d := d + 1) (wI := 1) (lvl := lvl + 1) h rfl (by rw [L1, nI_add]) (by omega) (by simp only [List.length_append, List.length_cons, List.length_nil]; omega), obs, List.append_assoc, List.append_assoc]
    rfl
  by_cases c5 : kd = 5
  · rw [if_neg c3, if_pos c5]
    subst hwI hlI
    show f_X0_perform_0 Z K R (F_X0_PF Z K R (d + 7)) _ _ _ _ _ _ _ = _
    unfold f_X0_perform_0
    rw [if_pos (show nI lvl ≤ 20 by rw [L20, nI_leI (by omega) (by omega)]; omega), bo_all (h.z l) hk (by omega), show bT kd 2 = 60 by rw [c5]; rfl, obs, h.o1, obs, c_note h.1 (by omega), obs, if_neg (show ¬ nI 60 = 10 by decide), if_neg (show ¬ nI 60 = 11 by decide), if_neg (show ¬ nI 60 = 12 by decide), if_neg (show ¬ nI 60 = 20 by decide), if_neg (show ¬ nI 60 = 30 by decide), if_neg (show ¬ nI 60 = 40 by decide), if_neg (show ¬ nI 60 = 50 by decide), if_neg (show ¬ nI 60 = 51 by decide), if_pos (show nI 60 = 60 from rfl), h.o6, obs, h.i, h.2.2.2.2.2.1,
      pf12 (d := d) (kI := 1) (wI := 2) (k := 1) (w := 2) (lvl := lvl + 1) h rfl rfl (by rw [L1, nI_add]) (by omega) (by omega) (by decide) (by omega) (by simp; omega), obs, List.append_assoc]
    rfl
  · rw [if_neg c3, if_neg c5]
    refine pf12 (d := d + 1) h rfl hwI hlI hk (by omega) ?_ (by omega) (by omega)
    have : ∀ k, k < 7 → k ≠ 3 → k ≠ 5 → bT k 2 = 12 := by decide
    exact this kd (by omega) c3 c5
end
