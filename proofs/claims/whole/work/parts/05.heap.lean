/-! ROWS THAT TOUCH THE HEAP, over the four maps -/
abbrev inb (i : Int32) (k : Nat) : Prop := 0 ≤ i.toInt ∧ i.toInt < (k : Int)
theorem inb_vp {i : Int32} {k : Nat} (h : inb i k) : vp_in i k := vp_in_iff.mpr h
/-- an object of a kind, not null -/
def ob (K : Sh) (c : Nat) (r : Option Nat) : Option Nat := r.bind fun a => if (K a).1 = c then some a else none
theorem ob_is {K : Sh} {c a : Nat} {r : Option Nat} (h : ob K c r = some a) : r = some a ∧ (K a).1 = c := by
  unfold ob at h
  obtain ⟨b, h1, h2⟩ := bnd h
  obtain ⟨h3, rfl⟩ := gd h2
  exact ⟨h1, h3⟩
def ldI (K : Sh) (I : Im) (r : Option Nat) (i : Int32) : Option Int32 := r.bind fun a => if ((K a).1 = 21 ∨ (K a).1 = 27) ∧ inb i (K a).2 then some (I a i.toNatClampNeg) else none
def ldB (K : Sh) (I : Im) (r : Option Nat) (i : Int32) : Option Int32 := r.bind fun a => if (K a).1 = 20 ∧ inb i (K a).2 then some (I a i.toNatClampNeg) else none
def ldZ (K : Sh) (I : Im) (r : Option Nat) (i : Int32) : Option Int32 := r.bind fun a => if (K a).1 = 23 ∧ inb i (K a).2 then some (I a i.toNatClampNeg) else none
def ldJ (K : Sh) (J : Jm) (r : Option Nat) (i : Int32) : Option Int64 := r.bind fun a => if (K a).1 = 22 ∧ inb i (K a).2 then some (J a i.toNatClampNeg) else none
def ldR (K : Sh) (R : Rf) (t : Nat) (r : Option Nat) (i : Int32) : Option (Option Nat) := r.bind fun a => if (K a).1 = t ∧ inb i (K a).2 then some (R a i.toNatClampNeg) else none
def alen (K : Sh) (r : Option Nat) : Option Int32 := r.bind fun a => if 20 ≤ (K a).1 ∧ (K a).1 ≤ 27 then some (Int32.ofNat (K a).2) else none
def stI (K : Sh) (I : Im) (r : Option Nat) (i v : Int32) : Option Im := r.bind fun a => if (K a).1 = 21 ∧ inb i (K a).2 then some (u2 I a i.toNatClampNeg v) else none
def stB (K : Sh) (I : Im) (r : Option Nat) (i v : Int32) : Option Im := r.bind fun a => if (K a).1 = 20 ∧ inb i (K a).2 then some (u2 I a i.toNatClampNeg v.toInt8.toInt32) else none
def stZ (K : Sh) (I : Im) (r : Option Nat) (i v : Int32) : Option Im := r.bind fun a => if ((K a).1 = 23 ∧ v &&& 1 = v) ∧ inb i (K a).2 then some (u2 I a i.toNatClampNeg v) else none
def stJ (K : Sh) (J : Jm) (r : Option Nat) (i : Int32) (v : Int64) : Option Jm := r.bind fun a => if (K a).1 = 22 ∧ inb i (K a).2 then some (u2 J a i.toNatClampNeg v) else none
def stR (K : Sh) (R : Rf) (t cc : Nat) (r : Option Nat) (i : Int32) (q : Option Nat) : Option Rf := r.bind fun a => q.bind fun b => if ((K a).1 = t ∧ (K b).1 = cc) ∧ inb i (K a).2 then some (u2 R a i.toNatClampNeg (some b)) else none
/-- a new row of zeros -/
def zr {α : Type} (f : Nat → Nat → α) (a : Nat) (v : α) : Nat → Nat → α := fun b j => if b = a then v else f b j
theorem zr_row {α : Type} {f : Nat → Nat → α} {a b : Nat} {v : α} (h : b ≠ a) : zr f a v b = f b := by funext j; simp [zr, h]
/-- how a field is found: its class' number and its own, its type, whether it is final -/
def FA (own : String) (index ci k : Nat) (ty : FieldType) (fin : Bool) : Prop :=
  ∃ (C : String) (T : u_T) (N : Nat), vwCl[ci]? = some (C, T, N) ∧ k < N ∧ N = nfl ci ∧ ci ≤ 12 ∧ fty ci k = ty ∧ (T k).2.2.2 = fin ∧ (∀ j, j < N → parseFieldDescriptor (T j).2.2.1 = some (fty ci j)) ∧ (∀ a, a < N → ∀ b, b < N → a ≠ b → (T a).2.1 ≠ (T b).2.1) ∧ (∀ w ∈ u_ws C T N, w ∈ tb) ∧
    ((Cond.fieldLink own index (T k).1 (T k).2.1 (T k).2.2.1 ∈ tb ∧ (T k).1 = own) ∨ ∃ host, Cond.fieldLinkNest own index (T k).1 (T k).2.1 (T k).2.2.1 host ∈ lw_tbl)
def isRt (ty : FieldType) : Bool := match ty with
  | .object _ => true
  | .array _ => true
  | _ => false
theorem isRf_t {ci k : Nat} {ty : FieldType} {b : Bool} (h : fty ci k = ty) (hb : isRt ty = b) : isRf ci k = b := by unfold isRf; rw [h]; exact hb
theorem rt_nar {ty : FieldType} (h : isRt ty = true) (r : Option Nat) : narrow ty (va_rf r) = va_rf r ∧ fits ty (va_rf r) = true := by
  cases ty <;> first | (cases h; done) | (cases r <;> exact ⟨rfl, rfl⟩)
section VHs
variable {D : va_G} {cA : Nat → ClassId} {bs : Nat} {Z : Nat → Nat} {p : Program} {l : Launch} {e : Env} {rm : Room} {s : State} {m : MethodId} {args : Array Value} {below : List Frame} {meth : Method} {c : Code}
variable {cc : ByteArray} {own : String} {nL : Nat} {ret : Option FieldType} {lv : List (Nat × Value)} {K : Sh} {n : Nat} {I : Im} {J : Jm} {R : Rf} {cells slots : Nat} {Q : State → Prop} {pc : Nat} {st : List Value}
theorem va_at_obj {ci a : Nat} {C : String} {T : u_T} {N : Nat} {H : Heap} (hh : hv D cA bs Z K I J R H) (hc : vwCl[ci]? = some (C, T, N)) (hci : ci ≤ 12) (ho : (K a).1 = ci + 1) : ∃ cell : Cell, H[a]? = some cell ∧ cell.cls = D.1 ci ∧ cell.vm = .none ∧ ∀ k, k < N → cell.slots[D.2 ci k]? = some (vp_V (h_fs ci I R a) k) := by
  obtain ⟨⟨r, h1, cell, q1, q2, q3, q4⟩, -⟩ := hh.1 a _ (h_cell_obj (cA := cA) (I := I) (J := J) (R := R) ho hci)
  have hr : r = (C, T, N) := Option.some.inj (h1.symm.trans hc)
  subst hr
  exact ⟨cell, q1, q2, q3, q4⟩
/-- a field read, whatever its type: the value v that the list of fields has -/
theorem v_get0 (C : Cx D cA bs Z p s m args meth c cc own nL ret) {a index ci k : Nat} {ty : FieldType} {fin : Bool} {v : Value} (f : FA own index ci k ty fin) (ho : (K a).1 = ci + 1) (hv0 : (h_fs ci I R a)[k]? = some v) (hd : decode cc pc = .ok (.getfield index, 3)) (kk : VW D cA bs Z p l e rm s m args below meth c nL lv K n I J R cells slots Q (pc + 3) (v :: st)) : VW D cA bs Z p l e rm s m args below meth c nL lv K n I J R cells slots Q pc (.ref a :: st) := by
  intro H locs ls hh hn hS hl
  obtain ⟨CC, T, N, hc, hk, -, hci, -, -, -, -, hin, hlink⟩ := f
  obtain ⟨hKc, hnest, -⟩ := C.2.2.2.2.2.2.2.1
  have hP : va_P D vwCl [(a, .inr (ci, h_fs ci I R a))] H := fun j q hq => by
    cases j with
    | zero => cases hq; exact (hh.1 a _ (h_cell_obj ho hci)).1
    | succ j => cases hq
  rcases hlink with ⟨hlink, -⟩ | ⟨host, hlink⟩
  · exact va_get (D := D) (cl := vwCl) (T := T) (N := N) C.1 C.2.1 C.2.2.2.2.2.1 hin C.2.2.2.2.1 hKc hP 0 rfl hc k hk (C.2.2.2.2.2.1 _ hlink) (fun _ h => h) hv0 hd (kk H locs ls hh hn hS hl)
  · exact va_getN (D := D) (cl := vwCl) (T := T) (N := N) C.1 C.2.1 C.2.2.2.2.2.1 hin C.2.2.2.2.1 hKc hP 0 rfl hc k hk (va_Nw.use rfl (hnest _ hlink rfl)) (fun _ h => h) hv0 hd (kk H locs ls hh hn hS hl)
theorem v_getI (C : Cx D cA bs Z p s m args meth c cc own nL ret) {a index ci k : Nat} {ty : FieldType} {fin : Bool} {r : Option Nat} (f : FA own index ci k ty fin) (ht : isRt ty = false) (hr : r = some a) (ho : (K a).1 = ci + 1) (hd : decode cc pc = .ok (.getfield index, 3)) (kk : VW D cA bs Z p l e rm s m args below meth c nL lv K n I J R cells slots Q (pc + 3) (.int (I a k) :: st)) : VW D cA bs Z p l e rm s m args below meth c nL lv K n I J R cells slots Q pc (va_rf r :: st) := by
  subst hr
  exact v_get0 C f ho (by obtain ⟨CC, T, N, hc, hk, hN, hci, hty, -⟩ := f; exact h_fs_int (by omega) (isRf_t hty ht)) hd kk
theorem v_getR (C : Cx D cA bs Z p s m args meth c cc own nL ret) {a index ci k : Nat} {ty : FieldType} {fin : Bool} {r : Option Nat} (f : FA own index ci k ty fin) (ht : isRt ty = true) (hr : r = some a) (ho : (K a).1 = ci + 1) (hd : decode cc pc = .ok (.getfield index, 3)) (kk : VW D cA bs Z p l e rm s m args below meth c nL lv K n I J R cells slots Q (pc + 3) (va_rf (R a k) :: st)) : VW D cA bs Z p l e rm s m args below meth c nL lv K n I J R cells slots Q pc (va_rf r :: st) := by
  subst hr
  exact v_get0 C f ho (by obtain ⟨CC, T, N, hc, hk, hN, hci, hty, -⟩ := f; exact h_fs_ref (by omega) (isRf_t hty ht)) hd kk
/-- a field written: I, R become I1, R1, whose fields of a are the old ones with v at k -/
theorem v_put0 (C : Cx D cA bs Z p s m args meth c cc own nL ret) {a index ci k : Nat} {ty : FieldType} {fin : Bool} {v : Value} {I1 : Im} {R1 : Rf} (f : FA own index ci k ty fin) (hfin : fin = false ∨ meth.name = "<init>" ∧ ∃ ref nm d, Cond.fieldLink own index ref nm d ∈ tb) (hfo : fin = true → ∀ ho : String, ∀ T : u_T, True) (ho : (K a).1 = ci + 1) (hn1 : narrow ty v = v) (hn2 : fits ty v = true) (hfs : h_fs ci I1 R1 a = (h_fs ci I R a).set k v) (hI : ∀ b, b ≠ a → I1 b = I b) (hR : ∀ b, b ≠ a → R1 b = R b) (hd : decode cc pc = .ok (.putfield index, 3)) (hown : fin = true → ∃ (C : String) (T : u_T) (N : Nat), vwCl[ci]? = some (C, T, N) ∧ Cond.fieldLink own index (T k).1 (T k).2.1 (T k).2.2.1 ∈ tb ∧ (T k).1 = own) (kk : VW D cA bs Z p l e rm s m args below meth c nL lv K n I1 J R1 cells slots Q (pc + 3) st) : VW D cA bs Z p l e rm s m args below meth c nL lv K n I J R cells slots Q pc (v :: .ref a :: st) := by
  intro H locs ls hh hn hS hl
  obtain ⟨CC, T, N, hc, hk, hN, hci, hty, hf, hpd, hnm, hin, hlink⟩ := f
  obtain ⟨hKc, hnest, -⟩ := C.2.2.2.2.2.2.2.1
  obtain ⟨cell, q1, q2, q3, q4⟩ := va_at_obj hh hc hci ho
  have hba : bs ≤ a := (hh.1 a _ (h_cell_obj ho hci)).2
  have hap := va_apart (own := own) (fun w h => C.2.2.2.2.2.1 w h) hin (fun j => fty ci j) hpd hnm hKc hc
  obtain ⟨hS0, hfc, kC, hkC, hkind⟩ := hKc.1 ci _ hc
  obtain ⟨cf, kf, fi, fd, hi, hsl⟩ := hS0 k hk
  have hlay := C.2.2.2.2.2.1 _ (hin _ (u_in_lay hk))
  have hst := (u_facts hfc hkC (u_lays (fun w h => C.2.2.2.2.2.1 w h) hin hk) hi).1
  have hd1 : parseFieldDescriptor (T k).2.2.1 = some ty := by rw [hpd k hk, hty]
  have fin1 : ∀ (H' : Heap), H'[a]? = some (cell.setSlot (D.2 ci k) v) → H'.size = H.size → (∀ q, q ≠ a → H'[q]? = H[q]?) → W p l e rm s m args below meth c H' (locs ++ [⟨a, D.2 ci k⟩]) cells slots Q (F0 m (pc + 3) ls st) := by
    intro H' e1 e2 e3
    have hat : va_at D vwCl (a, .inr (ci, h_fs ci I1 R1 a)) H' := ⟨_, hc, by
      rw [hfs]
      exact t_OB.to (V := updV (vp_V (h_fs ci I R a)) k v) ⟨_, e1, q2, q3, t_set q4 hap hk v⟩ (fun j _ => vp_updV_set (by rw [h_fs_len]; omega) v j)⟩
    exact kk H' _ ls (hh.write (fun b hb => hI b hb) (fun _ _ => rfl) (fun b hb => hR b hb) (h_cell_obj ho hci) ⟨_, h_cell_obj ho hci⟩ hat e3) (e2.trans hn) (hS.put e2 e3 hba) hl
  have hslot : fd.slot < cell.slots.size := by
    rw [hsl]
    exact k2_hasslot (q4 k hk)
  cases hfb : fin with
  | false =>
    unfold u_lay at hlay
    rw [if_neg (by rw [hf, hfb]; decide)] at hlay
    have h6 := u_store hfc hkC hkind hlay hi hd1 hn1 hn2
    rcases hlink with ⟨hlink, -⟩ | ⟨host, hlink⟩
    · refine W.putK C.1 C.2.1 (f := fd) ⟨C.2.2.2.2.1, C.2.2.2.2.2.1 _ hlink, ⟨_, _, _, hi⟩, hst⟩ (by rw [q2]; exact h6) q1 q3 hslot rfl rfl hd fun H' e1 e2 e3 => ?_
      rw [hsl] at e1 ⊢
      exact fin1 H' e1 e2 e3
    · refine va_WputK C.1 C.2.1 (f := fd) C.2.2.2.2.1 (va_Nw.use rfl (hnest _ hlink rfl)) hi hst (by rw [q2]; exact h6) q1 q3 hslot rfl rfl hd fun H' e1 e2 e3 => ?_
      rw [hsl] at e1 ⊢
      exact fin1 H' e1 e2 e3
  | true =>
    have hin2 : meth.name = "<init>" := by
      rcases hfin with h | h
      · rw [hfb] at h; cases h
      · exact h.1
    obtain ⟨C', T', N', hc', hlink', hdecl⟩ := hown hfb
    cases hc.symm.trans hc'
    unfold u_lay at hlay
    rw [if_pos (by rw [hf, hfb])] at hlay
    have hcf : m.cls = cf := by
      obtain ⟨_, _, c', _, _, _, -, -, hf', -, -, -, hown2, -⟩ := Cond.laysFinal_spec hlay
      have e1 : c' = cf := by have := hi.symm.trans hf'; simp at this; exact this.1.symm
      rw [hdecl] at hown2
      rw [← e1]; exact Option.some.inj (C.2.2.2.2.1.symm.trans hown2)
    have h6 := u_fits hfc hkC hkind (Or.inr hlay) hi hd1 hn1 hn2
    refine W.putFinK C.1 C.2.1 C.2.2.2.2.1 (C.2.2.2.2.2.1 _ hlink') hi hst hcf hin2 (by rw [q2]; exact h6) q1 q3 hslot rfl rfl hd fun H' e1 e2 e3 => ?_
    rw [hsl] at e1 ⊢
    exact fin1 H' e1 e2 e3
theorem v_putI (C : Cx D cA bs Z p s m args meth c cc own nL ret) {a index ci k : Nat} {ty : FieldType} {r : Option Nat} {x : Int32} {α : Type} {o : α} {F : Im → Option α} (f : FA own index ci k ty false) (ht : isRt ty = false) (E : Option.bind (some (u2 I a k x)) F = some o) (hr : r = some a) (ho : (K a).1 = ci + 1) (hn1 : narrow ty (.int x) = .int x ∧ fits ty (.int x) = true) (hd : decode cc pc = .ok (.putfield index, 3)) (kk : ∀ I1, I1 = u2 I a k x → F I1 = some o → VW D cA bs Z p l e rm s m args below meth c nL lv K n I1 J R cells slots Q (pc + 3) st) : VW D cA bs Z p l e rm s m args below meth c nL lv K n I J R cells slots Q pc (.int x :: va_rf r :: st) := by
  subst hr
  refine v_put0 C f (Or.inl rfl) (fun _ _ _ => trivial) ho hn1.1 hn1.2 (I1 := u2 I a k x) (R1 := R) (h_fs_putI (isRf_t (by obtain ⟨_, _, _, _, _, _, _, h, _⟩ := f; exact h) ht)) (fun b hb => u2_row hb) (fun _ _ => rfl) hd (fun h => by cases h) (kk _ rfl E)
theorem v_putR (C : Cx D cA bs Z p s m args meth c cc own nL ret) {a index ci k : Nat} {ty : FieldType} {r q : Option Nat} {α : Type} {o : α} {F : Rf → Option α} (f : FA own index ci k ty false) (ht : isRt ty = true) (E : Option.bind (some (u2 R a k q)) F = some o) (hr : r = some a) (ho : (K a).1 = ci + 1) (hd : decode cc pc = .ok (.putfield index, 3)) (kk : ∀ R1, R1 = u2 R a k q → F R1 = some o → VW D cA bs Z p l e rm s m args below meth c nL lv K n I J R1 cells slots Q (pc + 3) st) : VW D cA bs Z p l e rm s m args below meth c nL lv K n I J R cells slots Q pc (va_rf q :: va_rf r :: st) := by
  subst hr
  refine v_put0 C f (Or.inl rfl) (fun _ _ _ => trivial) ho (rt_nar ht q).1 (rt_nar ht q).2 (I1 := I) (R1 := u2 R a k q) (h_fs_putR (isRf_t (by obtain ⟨_, _, _, _, _, _, _, h, _⟩ := f; exact h) ht)) (fun _ _ => rfl) (fun b hb => u2_row hb) hd (fun h => by cases h) (kk _ rfl E)
theorem FA.own1 {own : String} {index ci k : Nat} {ty : FieldType} {fin : Bool} (f : FA own index ci k ty fin) (hl : ∀ host ref nm d, Cond.fieldLinkNest own index ref nm d host ∉ lw_tbl) : ∃ (C : String) (T : u_T) (N : Nat), vwCl[ci]? = some (C, T, N) ∧ Cond.fieldLink own index (T k).1 (T k).2.1 (T k).2.2.1 ∈ tb ∧ (T k).1 = own := by
  obtain ⟨CC, T, N, hc, hk, hN, hci, hty, hf, hpd, hnm, hin, hlink⟩ := f
  rcases hlink with h | ⟨host, h⟩
  · exact ⟨CC, T, N, hc, h⟩
  · exact absurd h (hl host _ _ _)
/-- final fields, which their constructor writes -/
def FO (own : String) (index ci k : Nat) : Prop := ∃ (C : String) (T : u_T) (N : Nat), vwCl[ci]? = some (C, T, N) ∧ Cond.fieldLink own index (T k).1 (T k).2.1 (T k).2.2.1 ∈ tb ∧ (T k).1 = own
theorem v_putIF (C : Cx D cA bs Z p s m args meth c cc own nL ret) {a index ci k : Nat} {ty : FieldType} {r : Option Nat} {x : Int32} {α : Type} {o : α} {F : Im → Option α} (f : FA own index ci k ty true) (fo : FO own index ci k) (hin : meth.name = "<init>") (ht : isRt ty = false) (E : Option.bind (some (u2 I a k x)) F = some o) (hr : r = some a) (ho : (K a).1 = ci + 1) (hn1 : narrow ty (.int x) = .int x ∧ fits ty (.int x) = true) (hd : decode cc pc = .ok (.putfield index, 3)) (kk : ∀ I1, I1 = u2 I a k x → F I1 = some o → VW D cA bs Z p l e rm s m args below meth c nL lv K n I1 J R cells slots Q (pc + 3) st) : VW D cA bs Z p l e rm s m args below meth c nL lv K n I J R cells slots Q pc (.int x :: va_rf r :: st) := by
  subst hr
  refine v_put0 C f (Or.inr ⟨hin, by obtain ⟨_, _, _, _, h, _⟩ := fo; exact ⟨_, _, _, h⟩⟩) (fun _ _ _ => trivial) ho hn1.1 hn1.2 (I1 := u2 I a k x) (R1 := R) (h_fs_putI (isRf_t (by obtain ⟨_, _, _, _, _, _, _, h, _⟩ := f; exact h) ht)) (fun b hb => u2_row hb) (fun _ _ => rfl) hd (fun _ => fo) (kk _ rfl E)
theorem v_putRF (C : Cx D cA bs Z p s m args meth c cc own nL ret) {a index ci k : Nat} {ty : FieldType} {r q : Option Nat} {α : Type} {o : α} {F : Rf → Option α} (f : FA own index ci k ty true) (fo : FO own index ci k) (hin : meth.name = "<init>") (ht : isRt ty = true) (E : Option.bind (some (u2 R a k q)) F = some o) (hr : r = some a) (ho : (K a).1 = ci + 1) (hd : decode cc pc = .ok (.putfield index, 3)) (kk : ∀ R1, R1 = u2 R a k q → F R1 = some o → VW D cA bs Z p l e rm s m args below meth c nL lv K n I J R1 cells slots Q (pc + 3) st) : VW D cA bs Z p l e rm s m args below meth c nL lv K n I J R cells slots Q pc (va_rf q :: va_rf r :: st) := by
  subst hr
  refine v_put0 C f (Or.inr ⟨hin, by obtain ⟨_, _, _, _, h, _⟩ := fo; exact ⟨_, _, _, h⟩⟩) (fun _ _ _ => trivial) ho (rt_nar ht q).1 (rt_nar ht q).2 (I1 := I) (R1 := u2 R a k q) (h_fs_putR (isRf_t (by obtain ⟨_, _, _, _, _, _, _, h, _⟩ := f; exact h) ht)) (fun _ _ => rfl) (fun b hb => u2_row hb) hd (fun _ => fo) (kk _ rfl E)
end VHs

