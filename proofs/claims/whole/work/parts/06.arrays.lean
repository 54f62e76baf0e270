/-! ROWS OF ARRAYS -/
section VAs
variable {D : va_G} {cA : Nat → ClassId} {bs : Nat} {Z : Nat → Nat} {p : Program} {l : Launch} {e : Env} {rm : Room} {s : State} {m : MethodId} {args : Array Value} {below : List Frame} {meth : Method} {c : Code}
variable {cc : ByteArray} {own : String} {nL : Nat} {ret : Option FieldType} {lv : List (Nat × Value)} {K : Sh} {n : Nat} {I : Im} {J : Jm} {R : Rf} {cells slots : Nat} {Q : State → Prop} {pc : Nat} {st : List Value}
theorem one_P {a : Nat} {e0 : va_E} {H : Heap} (hh : hv D cA bs Z K I J R H) (he : h_cell cA K I J R a = some e0) : va_P D vwCl [(a, e0)] H := fun j q hq => by
  cases j with
  | zero => cases hq; exact (hh.1 a _ he).1
  | succ j => cases hq
theorem atys_at (t : Nat) (ht : t < 7) : (atys cA)[t]? = some (cA (20 + t), aty t) := by simp [atys, ht]

theorem v_iald (C : Cx D cA bs Z p s m args meth c cc own nL ret) {r : Option Nat} {i : Int32} {α : Type} {o : α} {F : Int32 → Option α} (E : Option.bind (ldI K I r i) F = some o) (hd : decode cc pc = .ok (.iaload, 1)) (kk : ∀ v, ldI K I r i = some v → F v = some o → VW D cA bs Z p l e rm s m args below meth c nL lv K n I J R cells slots Q (pc + 1) (.int v :: st)) : VW D cA bs Z p l e rm s m args below meth c nL lv K n I J R cells slots Q pc (.int i :: va_rf r :: st) := by
  intro H locs ls hh hn hS hl
  obtain ⟨v, h1, E1⟩ := bnd E
  have h1' := h1
  unfold ldI at h1'
  obtain ⟨a, rfl, h2⟩ := bnd h1'
  obtain ⟨⟨h3, h4⟩, rfl⟩ := gd h2
  have hK := C.2.2.2.2.2.2.2.1.1
  rcases h3 with h3 | h3
  · exact va_iald C.1 C.2.1 hK (one_P hh (h_cell_int h3 (Or.inr (Or.inl rfl)))) 0 1 rfl (atys_at 1 (by decide)) (inb_vp h4) hd (kk _ h1 E1 H locs ls hh hn hS hl)
  · obtain ⟨z, hz, rfl, hz2, hz3⟩ := hh.2 a h3
    obtain ⟨cell, t1, t2, t3, t4, t5, t6, t7⟩ := ((C.2.2.2.2.2.2.2.1.2.2.2.2.2.2.2.2) z hz).kept hS.2.1
    have h4' := inb_vp h4
    have hlt : i.toNatClampNeg < zL z := by rw [← hz2]; exact Nat.not_le.mp fun q => h4' (Or.inr q)
    have h0 : ¬ i < 0 := fun q => h4' (Or.inl q)
    exact W.iald C.1 C.2.1 t1 t2 t3 (by rintro (q | q); exact h0 q; omega) (by rw [t6 _ hlt, hz3 _ hlt]) rfl rfl hd (kk _ h1 E1 H locs ls hh hn hS hl)
theorem v_bald (C : Cx D cA bs Z p s m args meth c cc own nL ret) {r : Option Nat} {i : Int32} {α : Type} {o : α} {F : Int32 → Option α} (E : Option.bind (ldB K I r i) F = some o) (hd : decode cc pc = .ok (.baload, 1)) (kk : ∀ v, ldB K I r i = some v → F v = some o → VW D cA bs Z p l e rm s m args below meth c nL lv K n I J R cells slots Q (pc + 1) (.int v :: st)) : VW D cA bs Z p l e rm s m args below meth c nL lv K n I J R cells slots Q pc (.int i :: va_rf r :: st) := by
  intro H locs ls hh hn hS hl
  obtain ⟨v, h1, E1⟩ := bnd E
  have h1' := h1
  unfold ldB at h1'
  obtain ⟨a, rfl, h2⟩ := bnd h1'
  obtain ⟨⟨h3, h4⟩, rfl⟩ := gd h2
  have hK := C.2.2.2.2.2.2.2.1.1
  exact va_bald C.1 C.2.1 hK (one_P hh (h_cell_int h3 (Or.inl rfl))) 0 0 rfl (atys_at 0 (by decide)) (inb_vp h4) hd (kk _ h1 E1 H locs ls hh hn hS hl)
theorem v_zald (C : Cx D cA bs Z p s m args meth c cc own nL ret) {r : Option Nat} {i : Int32} {α : Type} {o : α} {F : Int32 → Option α} (E : Option.bind (ldZ K I r i) F = some o) (hd : decode cc pc = .ok (.baload, 1)) (kk : ∀ v, ldZ K I r i = some v → F v = some o → VW D cA bs Z p l e rm s m args below meth c nL lv K n I J R cells slots Q (pc + 1) (.int v :: st)) : VW D cA bs Z p l e rm s m args below meth c nL lv K n I J R cells slots Q pc (.int i :: va_rf r :: st) := by
  intro H locs ls hh hn hS hl
  obtain ⟨v, h1, E1⟩ := bnd E
  have h1' := h1
  unfold ldZ at h1'
  obtain ⟨a, rfl, h2⟩ := bnd h1'
  obtain ⟨⟨h3, h4⟩, rfl⟩ := gd h2
  have hK := C.2.2.2.2.2.2.2.1.1
  exact va_zald C.1 C.2.1 hK (one_P hh (h_cell_int h3 (Or.inr (Or.inr rfl)))) 0 3 rfl (atys_at 3 (by decide)) (inb_vp h4) hd (kk _ h1 E1 H locs ls hh hn hS hl)
theorem v_lald (C : Cx D cA bs Z p s m args meth c cc own nL ret) {r : Option Nat} {i : Int32} {α : Type} {o : α} {F : Int64 → Option α} (E : Option.bind (ldJ K J r i) F = some o) (hd : decode cc pc = .ok (.laload, 1)) (kk : ∀ v, ldJ K J r i = some v → F v = some o → VW D cA bs Z p l e rm s m args below meth c nL lv K n I J R cells slots Q (pc + 1) (.long v :: st)) : VW D cA bs Z p l e rm s m args below meth c nL lv K n I J R cells slots Q pc (.int i :: va_rf r :: st) := by
  intro H locs ls hh hn hS hl
  obtain ⟨v, h1, E1⟩ := bnd E
  have h1' := h1
  unfold ldJ at h1'
  obtain ⟨a, rfl, h2⟩ := bnd h1'
  obtain ⟨⟨h3, h4⟩, rfl⟩ := gd h2
  have hK := C.2.2.2.2.2.2.2.1.1
  exact va_lald C.1 C.2.1 hK (one_P hh (h_cell_long h3)) 0 2 rfl (atys_at 2 (by decide)) (inb_vp h4) hd (kk _ h1 E1 H locs ls hh hn hS hl)
theorem v_aald (C : Cx D cA bs Z p s m args meth c cc own nL ret) {t : Nat} {r : Option Nat} {i : Int32} {α : Type} {o : α} {F : Option Nat → Option α} (ht : t = 24 ∨ t = 25 ∨ t = 26) (E : Option.bind (ldR K R t r i) F = some o) (hd : decode cc pc = .ok (.aaload, 1)) (kk : ∀ v, ldR K R t r i = some v → F v = some o → VW D cA bs Z p l e rm s m args below meth c nL lv K n I J R cells slots Q (pc + 1) (va_rf v :: st)) : VW D cA bs Z p l e rm s m args below meth c nL lv K n I J R cells slots Q pc (.int i :: va_rf r :: st) := by
  intro H locs ls hh hn hS hl
  obtain ⟨v, h1, E1⟩ := bnd E
  have h1' := h1
  unfold ldR at h1'
  obtain ⟨a, rfl, h2⟩ := bnd h1'
  obtain ⟨⟨h3, h4⟩, rfl⟩ := gd h2
  have hK := C.2.2.2.2.2.2.2.1.1
  rcases ht with rfl | rfl | rfl
  · exact va_aldq C.1 C.2.1 hK (one_P hh (h_cell_ref h3 (Or.inl rfl))) 0 4 rfl (atys_at 4 (by decide)) (inb_vp h4) hd (kk _ h1 E1 H locs ls hh hn hS hl)
  · exact va_aldq C.1 C.2.1 hK (one_P hh (h_cell_ref h3 (Or.inr (Or.inl rfl)))) 0 5 rfl (atys_at 5 (by decide)) (inb_vp h4) hd (kk _ h1 E1 H locs ls hh hn hS hl)
  · exact va_aldq C.1 C.2.1 hK (one_P hh (h_cell_ref h3 (Or.inr (Or.inr rfl)))) 0 6 rfl (atys_at 6 (by decide)) (inb_vp h4) hd (kk _ h1 E1 H locs ls hh hn hS hl)
theorem v_alen (C : Cx D cA bs Z p s m args meth c cc own nL ret) {r : Option Nat} {α : Type} {o : α} {F : Int32 → Option α} (E : Option.bind (alen K r) F = some o) (hd : decode cc pc = .ok (.arraylength, 1)) (kk : ∀ v, alen K r = some v → F v = some o → VW D cA bs Z p l e rm s m args below meth c nL lv K n I J R cells slots Q (pc + 1) (.int v :: st)) : VW D cA bs Z p l e rm s m args below meth c nL lv K n I J R cells slots Q pc (va_rf r :: st) := by
  intro H locs ls hh hn hS hl
  obtain ⟨v, h1, E1⟩ := bnd E
  have h1' := h1
  unfold alen at h1'
  obtain ⟨a, rfl, h2⟩ := bnd h1'
  obtain ⟨⟨h3, h4⟩, rfl⟩ := gd h2
  have hK := C.2.2.2.2.2.2.2.1.1
  have kk := kk _ h1 E1 H locs ls hh hn hS hl
  have hc : ∀ t, (K a).1 = t → t = 20 ∨ t = 21 ∨ t = 22 ∨ t = 23 ∨ t = 24 ∨ t = 25 ∨ t = 26 ∨ t = 27 := fun t h => by omega
  rcases hc _ rfl with h | h | h | h | h | h | h | h
  · exact va_alen C.1 C.2.1 hK (one_P hh (h_cell_int h (Or.inl rfl))) 0 0 rfl (atys_at 0 (by decide)) rfl hd kk
  · exact va_alen C.1 C.2.1 hK (one_P hh (h_cell_int h (Or.inr (Or.inl rfl)))) 0 1 rfl (atys_at 1 (by decide)) rfl hd kk
  · exact va_alen C.1 C.2.1 hK (one_P hh (h_cell_long h)) 0 2 rfl (atys_at 2 (by decide)) rfl hd kk
  · exact va_alen C.1 C.2.1 hK (one_P hh (h_cell_int h (Or.inr (Or.inr rfl)))) 0 3 rfl (atys_at 3 (by decide)) rfl hd kk
  · exact va_alen C.1 C.2.1 hK (one_P hh (h_cell_ref h (Or.inl rfl))) 0 4 rfl (atys_at 4 (by decide)) rfl hd kk
  · exact va_alen C.1 C.2.1 hK (one_P hh (h_cell_ref h (Or.inr (Or.inl rfl)))) 0 5 rfl (atys_at 5 (by decide)) rfl hd kk
  · exact va_alen C.1 C.2.1 hK (one_P hh (h_cell_ref h (Or.inr (Or.inr rfl)))) 0 6 rfl (atys_at 6 (by decide)) rfl hd kk
  · obtain ⟨z, hz, rfl, hz2, hz3⟩ := hh.2 a h
    obtain ⟨cell, t1, t2, t3, t4, t5, t6, t7⟩ := ((C.2.2.2.2.2.2.2.1.2.2.2.2.2.2.2.2) z hz).kept hS.2.1
    exact W.alen C.1 C.2.1 t1 t2 (by rw [t5, hz2]) rfl rfl hd kk
theorem v_iast (C : Cx D cA bs Z p s m args meth c cc own nL ret) {r : Option Nat} {i : Int32} {x : Int32} {α : Type} {o : α} {F : Im → Option α} (E : Option.bind (stI K I r i x) F = some o) (hd : decode cc pc = .ok (.iastore, 1)) (kk : ∀ I1, stI K I r i x = some I1 → F I1 = some o → VW D cA bs Z p l e rm s m args below meth c nL lv K n I1 J R cells slots Q (pc + 1) st) : VW D cA bs Z p l e rm s m args below meth c nL lv K n I J R cells slots Q pc (.int x :: .int i :: va_rf r :: st) := by
  intro H locs ls hh hn hS hl
  obtain ⟨I1, h1, E⟩ := bnd E
  have h1' := h1
  unfold stI at h1'
  obtain ⟨a, rfl, h2⟩ := bnd h1'
  obtain ⟨⟨h3, h4⟩, rfl⟩ := gd h2
  have hK := C.2.2.2.2.2.2.2.1.1
  have hc := h_cell_int (cA := cA) (I := I) (J := J) (R := R) h3 (Or.inr (Or.inl rfl))
  have hba : bs ≤ a := (hh.1 a _ hc).2
  refine W.iast C.1 C.2.1 (hh.1 a _ hc).1 ((hK.2 1 _ (atys_at 1 (by decide))).1 (K a).2 _) (fun q => by cases q) (by show ¬ (i < 0 ∨ (arrV _ _ _).slots.size ≤ _); rw [arrV_size]; exact inb_vp h4) rfl rfl hd fun H1 e1 z oq => ?_
  refine kk _ h1 E H1 _ ls (hh.write (a := a) (fun b hb => u2_row hb) (fun _ _ => rfl) (fun _ _ => rfl) (h_cell_int (cA := cA) (J := J) (R := R) h3 (Or.inr (Or.inl rfl))) ⟨_, hc⟩ ?_ oq) (z.trans hn) (hS.put z oq hba) hl
  · show H1[a]? = some (vp_cell _ _)
    rw [e1]
    rw [vp_cell_i, vp_cell_i, arrV_store]
    congr 2
    funext q
    by_cases hq : q = i.toNatClampNeg
    · subst hq
      simp [updV, u2]
    · simp [updV, u2, hq]
theorem v_bast (C : Cx D cA bs Z p s m args meth c cc own nL ret) {r : Option Nat} {i : Int32} {x : Int32} {α : Type} {o : α} {F : Im → Option α} (E : Option.bind (stB K I r i x) F = some o) (hd : decode cc pc = .ok (.bastore, 1)) (kk : ∀ I1, stB K I r i x = some I1 → F I1 = some o → VW D cA bs Z p l e rm s m args below meth c nL lv K n I1 J R cells slots Q (pc + 1) st) : VW D cA bs Z p l e rm s m args below meth c nL lv K n I J R cells slots Q pc (.int x :: .int i :: va_rf r :: st) := by
  intro H locs ls hh hn hS hl
  obtain ⟨I1, h1, E⟩ := bnd E
  have h1' := h1
  unfold stB at h1'
  obtain ⟨a, rfl, h2⟩ := bnd h1'
  obtain ⟨⟨h3, h4⟩, rfl⟩ := gd h2
  have hK := C.2.2.2.2.2.2.2.1.1
  have hc := h_cell_int (cA := cA) (I := I) (J := J) (R := R) h3 (Or.inl rfl)
  have hba : bs ≤ a := (hh.1 a _ hc).2
  refine W.bast C.1 C.2.1 (hh.1 a _ hc).1 ((hK.2 0 _ (atys_at 0 (by decide))).1 (K a).2 _) (fun q => by cases q) (by show ¬ (i < 0 ∨ (arrV _ _ _).slots.size ≤ _); rw [arrV_size]; exact inb_vp h4) rfl rfl hd fun H1 e1 z oq => ?_
  refine kk _ h1 E H1 _ ls (hh.write (a := a) (fun b hb => u2_row hb) (fun _ _ => rfl) (fun _ _ => rfl) (h_cell_int (cA := cA) (J := J) (R := R) h3 (Or.inl rfl)) ⟨_, hc⟩ ?_ oq) (z.trans hn) (hS.put z oq hba) hl
  · show H1[a]? = some (vp_cell _ _)
    rw [e1]
    rw [vp_cell_i, vp_cell_i, arrV_store]
    congr 2
    funext q
    by_cases hq : q = i.toNatClampNeg
    · subst hq
      simp [updV, u2, narrow]
    · simp [updV, u2, hq]
theorem v_zast (C : Cx D cA bs Z p s m args meth c cc own nL ret) {r : Option Nat} {i : Int32} {x : Int32} {α : Type} {o : α} {F : Im → Option α} (E : Option.bind (stZ K I r i x) F = some o) (hd : decode cc pc = .ok (.bastore, 1)) (kk : ∀ I1, stZ K I r i x = some I1 → F I1 = some o → VW D cA bs Z p l e rm s m args below meth c nL lv K n I1 J R cells slots Q (pc + 1) st) : VW D cA bs Z p l e rm s m args below meth c nL lv K n I J R cells slots Q pc (.int x :: .int i :: va_rf r :: st) := by
  intro H locs ls hh hn hS hl
  obtain ⟨I1, h1, E⟩ := bnd E
  have h1' := h1
  unfold stZ at h1'
  obtain ⟨a, rfl, h2⟩ := bnd h1'
  obtain ⟨⟨h3, h4⟩, rfl⟩ := gd h2
  obtain ⟨h3, h5⟩ := h3
  have hK := C.2.2.2.2.2.2.2.1.1
  have hc := h_cell_int (cA := cA) (I := I) (J := J) (R := R) h3 (Or.inr (Or.inr rfl))
  have hba : bs ≤ a := (hh.1 a _ hc).2
  refine W.zast C.1 C.2.1 (hh.1 a _ hc).1 ((hK.2 3 _ (atys_at 3 (by decide))).1 (K a).2 _) (fun q => by cases q) (by show ¬ (i < 0 ∨ (arrV _ _ _).slots.size ≤ _); rw [arrV_size]; exact inb_vp h4) rfl rfl hd fun H1 e1 z oq => ?_
  refine kk _ h1 E H1 _ ls (hh.write (a := a) (fun b hb => u2_row hb) (fun _ _ => rfl) (fun _ _ => rfl) (h_cell_int (cA := cA) (J := J) (R := R) h3 (Or.inr (Or.inr rfl))) ⟨_, hc⟩ ?_ oq) (z.trans hn) (hS.put z oq hba) hl
  · show H1[a]? = some (vp_cell _ _)
    rw [e1]
    rw [show narrow .boolean (.int x) = .int x from by simp [narrow, h5]]
    rw [vp_cell_i, vp_cell_i, arrV_store]
    congr 2
    funext q
    by_cases hq : q = i.toNatClampNeg
    · subst hq
      simp [updV, u2]
    · simp [updV, u2, hq]
theorem v_last (C : Cx D cA bs Z p s m args meth c cc own nL ret) {r : Option Nat} {i : Int32} {x : Int64} {α : Type} {o : α} {F : Jm → Option α} (E : Option.bind (stJ K J r i x) F = some o) (hd : decode cc pc = .ok (.lastore, 1)) (kk : ∀ J1, stJ K J r i x = some J1 → F J1 = some o → VW D cA bs Z p l e rm s m args below meth c nL lv K n I J1 R cells slots Q (pc + 1) st) : VW D cA bs Z p l e rm s m args below meth c nL lv K n I J R cells slots Q pc (.long x :: .int i :: va_rf r :: st) := by
  intro H locs ls hh hn hS hl
  obtain ⟨J1, h1, E⟩ := bnd E
  have h1' := h1
  unfold stJ at h1'
  obtain ⟨a, rfl, h2⟩ := bnd h1'
  obtain ⟨⟨h3, h4⟩, rfl⟩ := gd h2
  have hK := C.2.2.2.2.2.2.2.1.1
  have hc := h_cell_long (cA := cA) (J := J) (I := I) (R := R) h3
  have hba : bs ≤ a := (hh.1 a _ hc).2
  refine W.last C.1 C.2.1 (hh.1 a _ hc).1 ((hK.2 2 _ (atys_at 2 (by decide))).1 (K a).2 _) (fun q => by cases q) (by show ¬ (i < 0 ∨ (arrV _ _ _).slots.size ≤ _); rw [arrV_size]; exact inb_vp h4) rfl rfl hd fun H1 e1 z oq => ?_
  refine kk _ h1 E H1 _ ls (hh.write (a := a) (fun _ _ => rfl) (fun b hb => u2_row hb) (fun _ _ => rfl) (h_cell_long (cA := cA) (I := I) (R := R) h3) ⟨_, hc⟩ ?_ oq) (z.trans hn) (hS.put z oq hba) hl
  · show H1[a]? = some (vp_cell _ _)
    rw [e1]
    rw [vp_cell_l, vp_cell_l, arrV_store]
    congr 2
    funext q
    by_cases hq : q = i.toNatClampNeg
    · subst hq
      simp [updV, u2]
    · simp [updV, u2, hq]
theorem v_aast0 (C : Cx D cA bs Z p s m args meth c cc own nL ret) {t ci a b : Nat} {i : Int32} {C1 : String} {T1 : u_T} {N1 : Nat} (t0 : Nat) (ht0 : t0 < 7) (htt : t = 20 + t0) (ht : t = 24 ∨ t = 25 ∨ t = 26) (hc1 : vwCl[ci]? = some (C1, T1, N1)) (hci : ci ≤ 12) (hty : aty t0 = .object C1) (h3 : (K a).1 = t) (h5 : (K b).1 = ci + 1) (h4 : inb i (K a).2) (hd : decode cc pc = .ok (.aastore, 1)) (kk : VW D cA bs Z p l e rm s m args below meth c nL lv K n I J (u2 R a i.toNatClampNeg (some b)) cells slots Q (pc + 1) st) : VW D cA bs Z p l e rm s m args below meth c nL lv K n I J R cells slots Q pc (.ref b :: .int i :: .ref a :: st) := by
  intro H locs ls hh hn hS hl
  have hK := C.2.2.2.2.2.2.2.1.1
  have hc := h_cell_ref (cA := cA) (I := I) (J := J) (R := R) h3 ht
  have hba : bs ≤ a := (hh.1 a _ hc).2
  have h4' := inb_vp h4
  have hlt : i.toNatClampNeg < (K a).2 := Nat.not_le.mp fun q => h4' (Or.inr q)
  have h0 : ¬ i < 0 := fun q => h4' (Or.inl q)
  obtain ⟨r', hr', cellV, g1, g2, g3, -⟩ := (hh.1 b _ (h_cell_obj (cA := cA) (I := I) (J := J) (R := R) h5 hci)).1
  have hcls := (hK.1 ci _ hc1).2
  have hA := (hK.2 t0 _ (atys_at t0 ht0)).2
  simp only [hty] at hA
  obtain ⟨kA, comp, k1, k2, k3, -⟩ := hA
  have hcomp : comp = D.1 ci := Option.some.inj (k3.symm.trans hcls.1)
  subst hcomp
  obtain ⟨kC, hkC, -⟩ := hcls.2
  refine W.aast C.1 C.2.1 (hh.1 a _ hc).1 (fun q h => by cases h) (fun h => by cases h) (by rw [htt]; exact k1) k2 rfl hkC ⟨h0, by show _ < (arrV _ _ _).slots.size; rw [arrV_size]; exact hlt⟩ g1 (fun q h => by rw [g3] at h; cases h) (by rw [g2]; exact hkC) (by rw [g2]; exact va_assign hcls) rfl rfl hd fun H1 e1 z oq => ?_
  refine kk H1 _ ls (hh.write (a := a) (fun _ _ => rfl) (fun _ _ => rfl) (fun b hb => u2_row hb) (e := _) (h_cell_ref h3 ht) ⟨_, hc⟩ ?_ oq) (z.trans hn) (hS.put z oq hba) hl
  show H1[a]? = some (vp_cell _ _)
  rw [e1]
  rw [vp_cell_q, vp_cell_q, arrV_store]
  congr 2
  funext q
  by_cases hq : q = i.toNatClampNeg
  · subst hq
    simp [updV, u2, va_rf]
  · simp [updV, u2, hq]
theorem v_aast (C : Cx D cA bs Z p s m args meth c cc own nL ret) {t ck : Nat} {r q : Option Nat} {i : Int32} {α : Type} {o : α} {F : Rf → Option α} (ht : (t, ck) = (24, 2) ∨ (t, ck) = (25, 6) ∨ (t, ck) = (26, 8)) (E : Option.bind (stR K R t ck r i q) F = some o) (hd : decode cc pc = .ok (.aastore, 1)) (kk : ∀ R1, stR K R t ck r i q = some R1 → F R1 = some o → VW D cA bs Z p l e rm s m args below meth c nL lv K n I J R1 cells slots Q (pc + 1) st) : VW D cA bs Z p l e rm s m args below meth c nL lv K n I J R cells slots Q pc (va_rf q :: .int i :: va_rf r :: st) := by
  obtain ⟨R1, h1, E1⟩ := bnd E
  have h1' := h1
  unfold stR at h1'
  obtain ⟨a, rfl, h1b⟩ := bnd h1'
  obtain ⟨b, rfl, h2⟩ := bnd h1b
  obtain ⟨⟨⟨h3, h5⟩, h4⟩, rfl⟩ := gd h2
  rcases ht with h | h | h <;> cases h
  · exact v_aast0 C 4 (by decide) rfl (Or.inl rfl) (ci := 1) rfl (by decide) rfl h3 h5 h4 hd (kk _ h1 E1)
  · exact v_aast0 C 5 (by decide) rfl (Or.inr (Or.inl rfl)) (ci := 5) rfl (by decide) rfl h3 h5 h4 hd (kk _ h1 E1)
  · exact v_aast0 C 6 (by decide) rfl (Or.inr (Or.inr rfl)) (ci := 7) rfl (by decide) rfl h3 h5 h4 hd (kk _ h1 E1)
end VAs
