/-! NEW CELLS, STATICS, CALLS, RETURNS -/
section VNs
variable {D : va_G} {cA : Nat → ClassId} {bs : Nat} {Z : Nat → Nat} {p : Program} {l : Launch} {e : Env} {rm : Room} {s : State} {m : MethodId} {args : Array Value} {below : List Frame} {meth : Method} {c : Code}
variable {cc : ByteArray} {own : String} {nL : Nat} {ret : Option FieldType} {lv : List (Nat × Value)} {K : Sh} {n : Nat} {I : Im} {J : Jm} {R : Rf} {cells slots : Nat} {Q : State → Prop} {pc : Nat} {st : List Value}
theorem Cx.bn (C : Cx D cA bs Z p s m args meth c cc own nL ret) {H : Heap} {locs : List Loc} (hS : va_S (fun q => bs ≤ q) s.heap H locs) (hn : H.size = n) : bs ≤ n := by
  have h1 := C.2.2.2.2.2.2.2.2
  have h2 := hS.1
  omega
theorem va_S.push1 {A : Nat → Prop} {H0 H H1 : Heap} {locs : List Loc} (hS : va_S A H0 H locs) (z : H1.size = H.size + 1) (o : ∀ q, q < H.size → H1[q]? = H[q]?) : va_S A H0 H1 locs :=
  ⟨Nat.le_trans hS.1 (by omega), fun x h1 h2 => (o x (Nat.lt_of_lt_of_le h1 hS.1)).trans (hS.2.1 x h1 h2), hS.2.2⟩
/-- how a class is made: its number, its words -/
def NC (own : String) (index ci N : Nat) : Prop := ∃ (C : String) (T : u_T), vwCl[ci]? = some (C, T, N) ∧ N = nfl ci ∧ ci ≤ 12 ∧ (∀ j, j < N → parseFieldDescriptor (T j).2.2.1 = some (fty ci j)) ∧ (∀ j, j < N → defaultValue (fty ci j) = if isRf ci j = true then Value.null else .int 0) ∧ (∀ w ∈ u_ws C T N, w ∈ tb) ∧ Cond.classLink own index C ∈ tb ∧ Cond.instantiable C N ∈ tb ∧ Cond.initialized C ∈ tb
theorem v_new (C : Cx D cA bs Z p s m args meth c cc own nL ret) {index ci N : Nat} {α : Type} {o : α} {F : Sh → Option α} (f : NC own index ci N) (E : Option.bind (some (u1 K n (ci + 1, N))) F = some o) {ce1 sl1 : Nat} (hce : cells + 1 = ce1) (hsl : slots + N = sl1) (hcells : cells + 1 ≤ rm.cells) (hslots : slots + N ≤ rm.slots) (hd : decode cc pc = .ok (.new index, 3)) (kk : ∀ K1, K1 = u1 K n (ci + 1, N) → F K1 = some o → VW D cA bs Z p l e rm s m args below meth c nL lv K1 (n + 1) (zr I n 0) J (zr R n none) ce1 sl1 Q (pc + 3) (va_rf (some n) :: st)) : VW D cA bs Z p l e rm s m args below meth c nL lv K n I J R cells slots Q pc st := by
  subst hce hsl
  intro H locs ls hh hn hS hl
  obtain ⟨CC, T, hc, hN, hci, hpd, hdv, hin, hcl, hins, hini⟩ := f
  have hKn := C.2.2.2.2.2.2.2.1.1.1 ci _ hc
  have hb := C.bn hS hn
  subst hn
  refine W.newcK C.1 C.2.1 C.2.2.2.2.1 (C.2.2.2.2.2.1 _ hcl) (C.2.2.2.2.2.1 _ hins) (C.2.2.2.2.2.1 _ hini) rfl hd hcells hslots hKn.2.1 rfl fun H1 kC hkC e1 z1 o1 => ?_
  refine kk _ rfl E H1 locs ls (hh.grow rfl hb (fun b hb => u1_ne hb) (fun b hb => zr_row hb) (fun _ _ => rfl) (fun b hb => zr_row hb) (h_cell_obj (ci := ci) (by rw [u1_eq]) hci) ?_ o1) z1 (hS.push1 z1 o1) hl
  refine ⟨_, hc, (u_born (fun j => fty ci j) (fun w h => C.2.2.2.2.2.1 w h) hin hKn hkC e1 hpd).to (fun j hj => ?_)⟩
  rw [hdv j hj]
  simp only [vp_V, List.getD_eq_getElem?_getD]
  cases hr : isRf ci j with
  | true => rw [h_fs_ref (by omega) hr]; simp [zr, va_rf]
  | false => rw [h_fs_int (by omega) hr]; simp [zr]
theorem v_newa0 (C : Cx D cA bs Z p s m args meth c cc own nL ret) {atype : ArrayType} {k : Int32} {N t : Nat} {K1 : Sh} {I1 : Im} {J1 : Jm} {R1 : Rf} {a0 : vp_A} (ht : t < 7) (hty : newarray.typeOf atype = aty t) (harr : Cond.arrayClass (newarray.typeOf atype) ∈ tb) (hk : k = Int32.ofNat N) (hN : N < 100000) {ce1 sl1 : Nat} (hce : cells + 1 = ce1) (hsl : slots + N = sl1) (hcells : cells + 1 ≤ rm.cells) (hslots : slots + N ≤ rm.slots) (hd : decode cc pc = .ok (.newarray atype, 2)) (hbytes : N * componentBytes (aty t) ≤ 536870912) (hcl : "[" ++ (aty t).toString = "[" ++ (aty t).toString)
    (hK1 : ∀ b, b ≠ n → K1 b = K b) (hI1 : ∀ b, b ≠ n → I1 b = I b) (hJ1 : ∀ b, b ≠ n → J1 b = J b) (hR1 : ∀ b, b ≠ n → R1 b = R b) (he : h_cell cA K1 I1 J1 R1 n = some (.inl (cA (20 + t), a0))) (ha : ∀ cc : ClassId, vp_cell cc a0 = arrV cc N (fun _ => defaultValue (aty t)))
    (hra : ∀ (U : State) (q : ClassId), va_RA U q (aty t) → U.vm.findClass ("[" ++ (aty t).toString) = some q)
    (kk : VW D cA bs Z p l e rm s m args below meth c nL lv K1 (n + 1) I1 J1 R1 ce1 sl1 Q (pc + 2) (va_rf (some n) :: st)) : VW D cA bs Z p l e rm s m args below meth c nL lv K n I J R cells slots Q pc (.int k :: st) := by
  subst hce hsl
  intro H locs ls hh hn hS hl
  have hb := C.bn hS hn
  subst hn
  subst hk
  have hk1 : ¬ (Int32.ofNat N) < 0 := nI_pos (n := N) (by omega)
  have hk2 : (Int32.ofNat N).toNatClampNeg = N := nI_clamp (n := N) (by omega)
  refine va_newaK C.1 C.2.1 (C.2.2.2.2.2.1 _ harr) rfl hd rfl hk1 hk2 (by rw [hty]; exact hbytes) hcells hslots rfl fun H1 cA1 e1 z1 o1 hAr hNm => ?_
  have hx := hra _ _ ((C.2.2.2.2.2.2.2.1.1).2 t _ (atys_at t ht)).2
  rw [hty] at hNm e1
  have hcA : cA1 = cA (20 + t) := Option.some.inj (hNm.symm.trans hx)
  subst hcA
  exact kk H1 locs ls (hh.grow rfl hb hK1 hI1 hJ1 hR1 he (by show H1[H.size]? = some (vp_cell _ _); rw [ha]; exact e1) o1) z1 (hS.push1 z1 o1) hl
theorem v_newI (C : Cx D cA bs Z p s m args meth c cc own nL ret) {k : Int32} {N : Nat} {α : Type} {o : α} {F : Sh → Option α} (harr : Cond.arrayClass .int ∈ tb) (E : Option.bind (some (u1 K n (21, N))) F = some o) (hk : k = Int32.ofNat N) (hN : N < 100000) {ce1 sl1 : Nat} (hce : cells + 1 = ce1) (hsl : slots + N = sl1) (hcells : cells + 1 ≤ rm.cells) (hslots : slots + N ≤ rm.slots) (hd : decode cc pc = .ok (.newarray .int, 2)) (kk : ∀ K1, K1 = u1 K n (21, N) → F K1 = some o → VW D cA bs Z p l e rm s m args below meth c nL lv K1 (n + 1) (zr I n 0) J R ce1 sl1 Q (pc + 2) (va_rf (some n) :: st)) : VW D cA bs Z p l e rm s m args below meth c nL lv K n I J R cells slots Q pc (.int k :: st) :=
  v_newa0 C (atype := .int) (t := 1) (a0 := (N, .inl (zr I n 0 n))) (by decide) rfl harr hk hN hce hsl hcells hslots hd (by show N * 4 ≤ 536870912; omega) rfl (fun b hb => u1_ne hb) (fun b hb => zr_row hb) (fun _ _ => rfl) (fun _ _ => rfl) ((h_cell_int (t := 21) (by rw [u1_eq]) (Or.inr (Or.inl rfl))).trans (by rw [u1_eq])) (fun _ => by rw [vp_cell_i]; congr 1; funext j; simp [zr, aty, defaultValue]) (fun _ _ h => h) (kk _ rfl E)
theorem v_newB (C : Cx D cA bs Z p s m args meth c cc own nL ret) {k : Int32} {N : Nat} {α : Type} {o : α} {F : Sh → Option α} (harr : Cond.arrayClass .byte ∈ tb) (E : Option.bind (some (u1 K n (20, N))) F = some o) (hk : k = Int32.ofNat N) (hN : N < 100000) {ce1 sl1 : Nat} (hce : cells + 1 = ce1) (hsl : slots + N = sl1) (hcells : cells + 1 ≤ rm.cells) (hslots : slots + N ≤ rm.slots) (hd : decode cc pc = .ok (.newarray .byte, 2)) (kk : ∀ K1, K1 = u1 K n (20, N) → F K1 = some o → VW D cA bs Z p l e rm s m args below meth c nL lv K1 (n + 1) (zr I n 0) J R ce1 sl1 Q (pc + 2) (va_rf (some n) :: st)) : VW D cA bs Z p l e rm s m args below meth c nL lv K n I J R cells slots Q pc (.int k :: st) :=
  v_newa0 C (atype := .byte) (t := 0) (a0 := (N, .inl (zr I n 0 n))) (by decide) rfl harr hk hN hce hsl hcells hslots hd (by show N * 1 ≤ 536870912; omega) rfl (fun b hb => u1_ne hb) (fun b hb => zr_row hb) (fun _ _ => rfl) (fun _ _ => rfl) ((h_cell_int (t := 20) (by rw [u1_eq]) (Or.inl rfl)).trans (by rw [u1_eq])) (fun _ => by rw [vp_cell_i]; congr 1; funext j; simp [zr, aty, defaultValue]) (fun _ _ h => h) (kk _ rfl E)
theorem v_newZ (C : Cx D cA bs Z p s m args meth c cc own nL ret) {k : Int32} {N : Nat} {α : Type} {o : α} {F : Sh → Option α} (harr : Cond.arrayClass .boolean ∈ tb) (E : Option.bind (some (u1 K n (23, N))) F = some o) (hk : k = Int32.ofNat N) (hN : N < 100000) {ce1 sl1 : Nat} (hce : cells + 1 = ce1) (hsl : slots + N = sl1) (hcells : cells + 1 ≤ rm.cells) (hslots : slots + N ≤ rm.slots) (hd : decode cc pc = .ok (.newarray .boolean, 2)) (kk : ∀ K1, K1 = u1 K n (23, N) → F K1 = some o → VW D cA bs Z p l e rm s m args below meth c nL lv K1 (n + 1) (zr I n 0) J R ce1 sl1 Q (pc + 2) (va_rf (some n) :: st)) : VW D cA bs Z p l e rm s m args below meth c nL lv K n I J R cells slots Q pc (.int k :: st) :=
  v_newa0 C (atype := .boolean) (t := 3) (a0 := (N, .inl (zr I n 0 n))) (by decide) rfl harr hk hN hce hsl hcells hslots hd (by show N * 1 ≤ 536870912; omega) rfl (fun b hb => u1_ne hb) (fun b hb => zr_row hb) (fun _ _ => rfl) (fun _ _ => rfl) ((h_cell_int (t := 23) (by rw [u1_eq]) (Or.inr (Or.inr rfl))).trans (by rw [u1_eq])) (fun _ => by rw [vp_cell_i]; congr 1; funext j; simp [zr, aty, defaultValue]) (fun _ _ h => h) (kk _ rfl E)
theorem v_newJ (C : Cx D cA bs Z p s m args meth c cc own nL ret) {k : Int32} {N : Nat} {α : Type} {o : α} {F : Sh → Option α} (harr : Cond.arrayClass .long ∈ tb) (E : Option.bind (some (u1 K n (22, N))) F = some o) (hk : k = Int32.ofNat N) (hN : N < 100000) {ce1 sl1 : Nat} (hce : cells + 1 = ce1) (hsl : slots + N = sl1) (hcells : cells + 1 ≤ rm.cells) (hslots : slots + N ≤ rm.slots) (hd : decode cc pc = .ok (.newarray .long, 2)) (kk : ∀ K1, K1 = u1 K n (22, N) → F K1 = some o → VW D cA bs Z p l e rm s m args below meth c nL lv K1 (n + 1) I (zr J n 0) R ce1 sl1 Q (pc + 2) (va_rf (some n) :: st)) : VW D cA bs Z p l e rm s m args below meth c nL lv K n I J R cells slots Q pc (.int k :: st) :=
  v_newa0 C (atype := .long) (t := 2) (a0 := (N, .inr (.inl (zr J n 0 n)))) (by decide) rfl harr hk hN hce hsl hcells hslots hd (by show N * 8 ≤ 536870912; omega) rfl (fun b hb => u1_ne hb) (fun _ _ => rfl) (fun b hb => zr_row hb) (fun _ _ => rfl) ((h_cell_long (by rw [u1_eq])).trans (by rw [u1_eq])) (fun _ => by rw [vp_cell_l]; congr 1; funext j; simp [zr, aty, defaultValue]) (fun _ _ h => h) (kk _ rfl E)
theorem v_anew (C : Cx D cA bs Z p s m args meth c cc own nL ret) {index t : Nat} {C1 : String} {k : Int32} {N : Nat} {α : Type} {o : α} {F : Sh → Option α} (ht : t = 4 ∨ t = 5 ∨ t = 6) (hty : aty t = .object C1) (hcl : Cond.classLink own index C1 ∈ tb) (E : Option.bind (some (u1 K n (20 + t, N))) F = some o) (hk : k = Int32.ofNat N) (hN : N < 100000) {ce1 sl1 : Nat} (hce : cells + 1 = ce1) (hsl : slots + N = sl1) (hcells : cells + 1 ≤ rm.cells) (hslots : slots + N ≤ rm.slots) (hd : decode cc pc = .ok (.anewarray index, 3)) (kk : ∀ K1, K1 = u1 K n (20 + t, N) → F K1 = some o → VW D cA bs Z p l e rm s m args below meth c nL lv K1 (n + 1) I J (zr R n none) ce1 sl1 Q (pc + 3) (va_rf (some n) :: st)) : VW D cA bs Z p l e rm s m args below meth c nL lv K n I J R cells slots Q pc (.int k :: st) := by
  subst hce hsl
  intro H locs ls hh hn hS hl
  have hb := C.bn hS hn
  subst hn
  subst hk
  have hk1 : ¬ (Int32.ofNat N) < 0 := nI_pos (n := N) (by omega)
  have hk2 : (Int32.ofNat N).toNatClampNeg = N := nI_clamp (n := N) (by omega)
  have hov1 : (Cond.arrayOver (.object C1)).before args s = true := by
    have h9 := (C.2.2.2.2.2.2.2.1.2.2.2.1 t).use (A := args)
    have h8 : C1 = aoN t := by rcases ht with rfl | rfl | rfl <;> exact (FieldType.object.inj hty).symm
    rw [h8]
    exact h9
  refine W.anew C.1 C.2.1 C.2.2.2.2.1 (C.2.2.2.2.2.1 _ hcl) hov1 rfl hd rfl hk1 (by rw [hk2]; omega) hcells (by rw [hk2]; exact hslots) fun cA1 kA comp h1 h2 h3 h4 => ?_
  have hA := ((C.2.2.2.2.2.2.2.1.1).2 t _ (atys_at t (by omega))).2
  simp only [hty] at hA
  obtain ⟨-, -, -, -, -, h5⟩ := hA
  have hcA : cA1 = cA (20 + t) := Option.some.inj (h1.symm.trans h5)
  subst hcA
  rw [hk2]
  have hz : (H.push ({ cls := cA (20 + t), slots := Array.replicate N Value.null, vm := .none } : Cell)).size = H.size + 1 := by simp
  have ho : ∀ q, q < H.size → (H.push ({ cls := cA (20 + t), slots := Array.replicate N Value.null, vm := .none } : Cell))[q]? = H[q]? := fun q hq => by rw [Array.getElem?_push, if_neg (Nat.ne_of_lt hq)]
  have hcc : (20 + t = 24 ∨ 20 + t = 25 ∨ 20 + t = 26) := by omega
  refine kk _ rfl E _ locs ls (hh.grow (K' := u1 K H.size (20 + t, N)) rfl hb (fun b hb => u1_ne hb) (fun _ _ => rfl) (fun _ _ => rfl) (fun b hb => zr_row hb) ((h_cell_ref (t := 20 + t) (by rw [u1_eq]) hcc).trans (by rw [u1_eq])) ?_ ho) hz (hS.push1 hz ho) hl
  show (H.push _)[H.size]? = some (vp_cell _ _)
  rw [vp_cell_q, arrV_new]
  simp [zr, va_rf]
/-- a static array -/
theorem v_gets (C : Cx D cA bs Z p s m args meth c cc own nL ret) {index : Nat} (i : Nat) (hi : i < 3) (hlink : Cond.fieldLink own index (zC i) (zN i) "[I" ∈ tb ∨ ∃ host, Cond.fieldLinkNest own index (zC i) (zN i) "[I" host ∈ lw_tbl) (hd : decode cc pc = .ok (.getstatic index, 3)) (kk : VW D cA bs Z p l e rm s m args below meth c nL lv K n I J R cells slots Q (pc + 3) (va_rf (some (Z i)) :: st)) : VW D cA bs Z p l e rm s m args below meth c nL lv K n I J R cells slots Q pc st := by
  intro H locs ls hh hn hS hl
  rcases hlink with hlink | ⟨host, hlink⟩
  · exact va_gets C.1 C.2.1 (C.2.2.2.2.2.2.2.1.2.2.1 i hi) hS C.2.2.2.2.1 (C.2.2.2.2.2.1 _ hlink) (fun _ h => h) hd (kk H locs ls hh hn hS hl)
  · exact va_getsN C.1 C.2.1 (C.2.2.2.2.2.2.2.1.2.2.1 i hi) hS C.2.2.2.2.1 (va_Nw.use rfl (C.2.2.2.2.2.2.2.1.2.1 _ hlink rfl)) (fun _ h => h) hd (kk H locs ls hh hn hS hl)
theorem v_objInit (C : Cx D cA bs Z p s m args meth c cc own nL ret) {index : Nat} {a : Nat} (hlink : Cond.methodLink own index Lib.objectInit ∈ tb) (hinst : Cond.instanceMethod Lib.objectInit ∈ tb) (hcode : Cond.code Lib.objectInit ⟨#[0xb1]⟩ 1 none ∈ tb) (hf : 1 ≤ rm.frames) (hlo : (st.map fun v => v.category).sum + 12 ≤ rm.locals) (hd : decode cc pc = .ok (.invokespecial index, 3)) (kk : VW D cA bs Z p l e rm s m args below meth c nL lv K n I J R cells slots Q (pc + 3) st) : VW D cA bs Z p l e rm s m args below meth c nL lv K n I J R cells slots Q pc (va_rf (some a) :: st) := by
  intro H locs ls hh hn hS hl
  refine W.objInit C.1 C.2.1 C.2.2.2.2.1 (C.2.2.2.2.2.1 _ hlink) (C.2.2.2.2.2.1 _ hinst) (C.2.2.2.2.2.1 _ hcode) rfl (by rw [C.2.2.1]; exact hl.1) rfl hd hf (by show 2 * 0 + _ + 12 ≤ _; omega) (kk H locs ls hh hn hS hl)
theorem v_max (C : Cx D cA bs Z p s m args meth c cc own nL ret) {index : Nat} {x y : Int32} (hw : Cond.methodLink own index Lib.Math.max.name ∈ tb ∧ Cond.static Lib.Math.max.name ∈ tb ∧ Cond.initialized "java/lang/Math" ∈ tb ∧ Cond.code Lib.Math.max.name Lib.Math.max.code 2 (some .int) ∈ tb) (hf : 1 ≤ rm.frames) (hlo : (st.map fun v => v.category).sum + 13 ≤ rm.locals) (hc : cells ≤ rm.cells) (hs : slots ≤ rm.slots) (hd : decode cc pc = .ok (.invokestatic index, 3)) (kk : VW D cA bs Z p l e rm s m args below meth c nL lv K n I J R cells slots Q (pc + 3) (.int (imax x y) :: st)) : VW D cA bs Z p l e rm s m args below meth c nL lv K n I J R cells slots Q pc (.int y :: .int x :: st) := by
  intro H locs ls hh hn hS hl
  exact va_mmax C.1 C.2.1 (by rw [C.2.2.1]; exact hl.1.symm) C.2.2.2.2.1 (C.2.2.2.2.2.1 _ hw.1) (C.2.2.2.2.2.1 _ hw.2.1) (C.2.2.2.2.2.1 _ hw.2.2.1) (C.2.2.2.2.2.1 _ hw.2.2.2) hf hlo hc hs hd (kk H locs ls hh hn hS hl)
theorem v_min (C : Cx D cA bs Z p s m args meth c cc own nL ret) {index : Nat} {x y : Int32} (hw : Cond.methodLink own index Lib.Math.min.name ∈ tb ∧ Cond.static Lib.Math.min.name ∈ tb ∧ Cond.initialized "java/lang/Math" ∈ tb ∧ Cond.code Lib.Math.min.name Lib.Math.min.code 2 (some .int) ∈ tb) (hf : 1 ≤ rm.frames) (hlo : (st.map fun v => v.category).sum + 13 ≤ rm.locals) (hc : cells ≤ rm.cells) (hs : slots ≤ rm.slots) (hd : decode cc pc = .ok (.invokestatic index, 3)) (kk : VW D cA bs Z p l e rm s m args below meth c nL lv K n I J R cells slots Q (pc + 3) (.int (imin x y) :: st)) : VW D cA bs Z p l e rm s m args below meth c nL lv K n I J R cells slots Q pc (.int y :: .int x :: st) := by
  intro H locs ls hh hn hS hl
  exact va_mmin C.1 C.2.1 (by rw [C.2.2.1]; exact hl.1.symm) C.2.2.2.2.1 (C.2.2.2.2.2.1 _ hw.1) (C.2.2.2.2.2.1 _ hw.2.1) (C.2.2.2.2.2.1 _ hw.2.2.1) (C.2.2.2.2.2.1 _ hw.2.2.2) hf hlo hc hs hd (kk H locs ls hh hn hS hl)
/-! contracts -/
def PX (D : va_G) (cA : Nat → ClassId) (bs : Nat) (Z : Nat → Nat) (av : List Value) (K : Sh) (n : Nat) (I : Im) (J : Jm) (R : Rf) : Array Value → State → Prop := fun v U => v = av.toArray ∧ hv D cA bs Z K I J R U.heap ∧ U.heap.size = n ∧ KK D cA bs Z U ∧ bs ≤ U.heap.size
def QX (D : va_G) (cA : Nat → ClassId) (bs : Nat) (Z : Nat → Nat) (rv : Option Value) (K : Sh) (n : Nat) (I : Im) (J : Jm) (R : Rf) : Array Value → State → Outcome → State → Prop := fun _ st o t => o = .returned rv ∧ hv D cA bs Z K I J R t.heap ∧ t.heap.size = n ∧ va_F (fun q => bs ≤ q) st t
theorem PX.blind {av : List Value} : FrameBlind (PX D cA bs Z av K n I J R) := fun a U g mk h => by
  obtain ⟨h1, h2, h3, h4, h5⟩ := h
  exact ⟨h1, h2, h3, h4.same rfl rfl, h5⟩
theorem PX.at {av : List Value} (C : Cx D cA bs Z p s m args meth c cc own nL ret) {H : Heap} {locs : List Loc} (hh : hv D cA bs Z K I J R H) (hn : H.size = n) (hS : va_S (fun q => bs ≤ q) s.heap H locs) (U : State) (hU : U.heap = H) (hW : s.WarmedH U.vm) : PX D cA bs Z av K n I J R av.toArray U := by
  subst hU
  exact ⟨rfl, hh, hn, C.2.2.2.2.2.2.2.1.goes hW (fun q h1 h2 => hS.2.1 q h1 h2), Nat.le_trans C.2.2.2.2.2.2.2.2 hS.1⟩
theorem v_back {a : Array Value} {rv : Option Value} {K1 : Sh} {n1 : Nat} {I1 : Im} {J1 : Jm} {R1 : Rf} {mc ms : Nat} {H : Heap} {locs : List Loc} {ls : Array Slot} {st0 : List Value} (C : Cx D cA bs Z p s m args meth c cc own nL ret) (hS : va_S (fun q => bs ≤ q) s.heap H locs) (hl : lv_has ls nL lv) (hr : va_Run p l e rm s m args below meth c H locs cells slots mc ms (F0 m pc ls st0) st (QX D cA bs Z rv K1 n1 I1 J1 R1 a) (fun q => bs ≤ q)) (kk : VW D cA bs Z p l e rm s m args below meth c nL lv K1 n1 I1 J1 R1 (cells + mc) (slots + ms) Q (pc + 3) (rv.toList ++ st)) : W p l e rm s m args below meth c H locs cells slots Q (F0 m pc ls st0) := by
  intro T hT X
  obtain ⟨v, st₀, t, T', L, h0, X', hL, e1, e2, ⟨hv1, hh1, hz1, hF1⟩, stp⟩ := hr T hT X
  cases hv1
  obtain ⟨hz, hk⟩ := hF1
  rw [h0] at hz hk
  obtain ⟨t2, a1, b1⟩ := kk T'.heap (locs ++ L) ls (by rw [e1]; exact hh1) (by rw [e1]; exact hz1) ⟨Nat.le_trans hS.1 (by rw [e1]; exact hz), fun q h1 h2 => by rw [e1, hk q (Nat.lt_of_lt_of_le h1 hS.1) h2]; exact hS.2.1 q h1 h2, fun q hq => by
      rcases List.mem_append.mp hq with h | h
      · exact hS.2.2 q h
      · exact hL q h⟩ hl T' rfl X'
  exact ⟨t2, stp t2 a1, b1⟩
/-- how a method is called: the words -/
def CA (own : String) (index : Nat) (y : MethodName) (bytes : ByteArray) (maxL : Nat) (ry : Option FieldType) (k : Nat) : Prop :=
  Cond.code y bytes maxL ry ∈ tb ∧ Cond.initialized y.cls ∈ tb ∧ (y.cls ≠ "java/lang/invoke/MethodHandle" ∧ y.cls ≠ "java/lang/invoke/VarHandle" ∧ (parseMethodDescriptor y.desc).map (fun d => d.parameters.length) = some k) ∧ (Cond.methodLink own index y ∈ tb ∨ ∃ host, Cond.methodLinkNest own index y host ∈ lw_tbl)
def CV (own : String) (index : Nat) (y : MethodName) (bytes : ByteArray) (maxL : Nat) (ry : Option FieldType) (k ci : Nat) : Prop :=
  CA own index y bytes maxL ry k ∧ Cond.instanceMethod y ∈ tb ∧ Cond.selects y.cls y y ∈ tb ∧ ci ≤ 12 ∧ ∃ (T : u_T) (N : Nat), vwCl[ci]? = some (y.cls, T, N)
def CS (own : String) (index : Nat) (y : MethodName) (bytes : ByteArray) (maxL : Nat) (ry : Option FieldType) (k : Nat) : Prop := CA own index y bytes maxL ry k ∧ Cond.static y ∈ tb
def CI (own : String) (index : Nat) (y : MethodName) (bytes : ByteArray) (maxL : Nat) (k : Nat) : Prop := CA own index y bytes maxL none k ∧ Cond.instanceMethod y ∈ tb ∧ y.name = "<init>"
theorem CA.good {index : Nat} {y : MethodName} {bytes : ByteArray} {maxL : Nat} {ry : Option FieldType} {k : Nat} (f : CA own index y bytes maxL ry k) : GoodIn tb (Cond.code y bytes maxL ry :: tb) := tb_good (ws := []) f.1
theorem v_callV (C : Cx D cA bs Z p s m args meth c cc own nL ret) {index ci k a : Nat} {y : MethodName} {bytes : ByteArray} {maxL mc ms : Nat} {ry : Option FieldType} {rmc : Room} {As : List Value} {rv : Option Value} {K1 : Sh} {n1 : Nat} {I1 : Im} {J1 : Jm} {R1 : Rf} {r : Option Nat} {st0 : List Value} (f : CV own index y bytes maxL ry k ci) (hM : Met l y (Cond.code y bytes maxL ry :: tb) rmc (PX D cA bs Z (.ref a :: As) K n I J R) (QX D cA bs Z rv K1 n1 I1 J1 R1) mc ms (fun q => bs ≤ q)) (hr : r = some a) (ho : (K a).1 = ci + 1) (hk : As.length = k) (hst0 : st0 = As.reverse ++ va_rf r :: st) (hrm : rmc.cells = mc ∧ rmc.slots = ms ∧ rmc.frames + 1 ≤ rm.frames ∧ 8 + (maxL + 11) + rmc.locals ≤ rm.locals) (hcs : cells + mc ≤ rm.cells ∧ slots + ms ≤ rm.slots) (hst : (st.map fun v => v.category).sum ≤ 8) {st1 : List Value} {ce1 sl1 : Nat} (hs1 : rv.toList ++ st = st1) (hce : cells + mc = ce1) (hsl : slots + ms = sl1) (hd : decode cc pc = .ok (.invokevirtual index, 3)) (kk : VW D cA bs Z p l e rm s m args below meth c nL lv K1 n1 I1 J1 R1 ce1 sl1 Q (pc + 3) st1) : VW D cA bs Z p l e rm s m args below meth c nL lv K n I J R cells slots Q pc st0 := by
  subst hs1 hce hsl
  intro H locs ls hh hn hS hl
  subst hr
  obtain ⟨f0, f1, f2, f3, T, N, f4⟩ := f
  have hPr : ∃ cellB : Cell, H[a]? = some cellB ∧ cellB.vm.isStatics = false ∧ s.vm.findClass y.cls = some cellB.cls := va_recv C.2.2.2.2.2.2.2.1.1 (one_P hh (h_cell_obj ho f3)) (ci := ci) (q0 := 0) f4 rfl
  have hpv : PreV s H y.cls a (PX D cA bs Z (.ref a :: As) K n I J R) As := ⟨PX.blind, hPr, fun U hU hW => PX.at C hh hn hS U hU hW⟩
  have hfix : CallFix p m c cc nL s args tb own := ⟨C.1, C.2.1, C.2.2.1, C.2.2.2.2.1, C.2.2.2.2.2.1⟩
  rcases f0.2.2.2 with h | ⟨host, h⟩
  · exact v_back C hS hl (va_runV hfix hM ⟨callB_of k C.2.2.2.2.2.1 f0.good rfl hrm.1 hrm.2.1 (C.2.2.2.2.2.1 _ f0.2.1) (C.2.2.2.2.2.1 _ h) f0.2.2.1 hrm.2.2, C.2.2.2.2.2.1 _ f1, C.2.2.2.2.2.1 _ f2⟩ hpv rfl hk hl.1 hst0 (lv_room hst) hd hcs) kk
  · exact v_back C hS hl (va_runVN hfix hM ⟨va_cnB k C.2.2.2.2.2.1 f0.good rfl hrm.1 hrm.2.1 (C.2.2.2.2.2.2.2.1.2.1 _ h rfl) (C.2.2.2.2.2.1 _ f0.2.1) f0.2.2.1 hrm.2.2, C.2.2.2.2.2.1 _ f1, C.2.2.2.2.2.1 _ f2⟩ hpv rfl hk hl.1 hst0 (lv_room hst) hd hcs) kk
theorem v_callI (C : Cx D cA bs Z p s m args meth c cc own nL ret) {index k a : Nat} {y : MethodName} {bytes : ByteArray} {maxL mc ms : Nat} {rmc : Room} {As : List Value} {K1 : Sh} {n1 : Nat} {I1 : Im} {J1 : Jm} {R1 : Rf} {r : Option Nat} {st0 : List Value} (f : CI own index y bytes maxL k) (hM : Met l y (Cond.code y bytes maxL none :: tb) rmc (PX D cA bs Z (.ref a :: As) K n I J R) (QX D cA bs Z none K1 n1 I1 J1 R1) mc ms (fun q => bs ≤ q)) (hr : r = some a) (hk : As.length = k) (hst0 : st0 = As.reverse ++ va_rf r :: st) (hrm : rmc.cells = mc ∧ rmc.slots = ms ∧ rmc.frames + 1 ≤ rm.frames ∧ 8 + (maxL + 11) + rmc.locals ≤ rm.locals) (hcs : cells + mc ≤ rm.cells ∧ slots + ms ≤ rm.slots) (hst : (st.map fun v => v.category).sum ≤ 8) {ce1 sl1 : Nat} (hce : cells + mc = ce1) (hsl : slots + ms = sl1) (hd : decode cc pc = .ok (.invokespecial index, 3)) (kk : VW D cA bs Z p l e rm s m args below meth c nL lv K1 n1 I1 J1 R1 ce1 sl1 Q (pc + 3) st) : VW D cA bs Z p l e rm s m args below meth c nL lv K n I J R cells slots Q pc st0 := by
  subst hce hsl
  intro H locs ls hh hn hS hl
  subst hr
  obtain ⟨f0, f1, f2⟩ := f
  have hpv : PreS s H (PX D cA bs Z (.ref a :: As) K n I J R) (.ref a :: As) := ⟨PX.blind, fun U hU hW => PX.at C hh hn hS U hU hW⟩
  have hfix : CallFix p m c cc nL s args tb own := ⟨C.1, C.2.1, C.2.2.1, C.2.2.2.2.1, C.2.2.2.2.2.1⟩
  rcases f0.2.2.2 with h | ⟨host, h⟩
  · exact v_back (rv := none) C hS hl (va_runI hfix hM (cwI k C.2.2.2.2.2.1 f0.good rfl hrm.1 hrm.2.1 (C.2.2.2.2.2.1 _ f0.2.1) (C.2.2.2.2.2.1 _ h) (C.2.2.2.2.2.1 _ f1) f2 f0.2.2.1 hrm.2.2) hpv rfl hk hl.1 hst0 (lv_room hst) hd hcs) kk
  · exact v_back (rv := none) C hS hl (va_runIN hfix hM ⟨va_cnB k C.2.2.2.2.2.1 f0.good rfl hrm.1 hrm.2.1 (C.2.2.2.2.2.2.2.1.2.1 _ h rfl) (C.2.2.2.2.2.1 _ f0.2.1) f0.2.2.1 hrm.2.2, f2, C.2.2.2.2.2.1 _ f1⟩ hpv rfl hk hl.1 hst0 (lv_room hst) hd hcs) kk
theorem v_callS (C : Cx D cA bs Z p s m args meth c cc own nL ret) {index k : Nat} {y : MethodName} {bytes : ByteArray} {maxL mc ms : Nat} {ry : Option FieldType} {rmc : Room} {As : List Value} {rv : Option Value} {K1 : Sh} {n1 : Nat} {I1 : Im} {J1 : Jm} {R1 : Rf} {st0 : List Value} (f : CS own index y bytes maxL ry k) (hM : Met l y (Cond.code y bytes maxL ry :: tb) rmc (PX D cA bs Z As K n I J R) (QX D cA bs Z rv K1 n1 I1 J1 R1) mc ms (fun q => bs ≤ q)) (hk : As.length = k) (hst0 : st0 = As.reverse ++ st) (hrm : rmc.cells = mc ∧ rmc.slots = ms ∧ rmc.frames + 1 ≤ rm.frames ∧ 8 + (maxL + 11) + rmc.locals ≤ rm.locals) (hcs : cells + mc ≤ rm.cells ∧ slots + ms ≤ rm.slots) (hst : (st.map fun v => v.category).sum ≤ 8) {st1 : List Value} {ce1 sl1 : Nat} (hs1 : rv.toList ++ st = st1) (hce : cells + mc = ce1) (hsl : slots + ms = sl1) (hd : decode cc pc = .ok (.invokestatic index, 3)) (kk : VW D cA bs Z p l e rm s m args below meth c nL lv K1 n1 I1 J1 R1 ce1 sl1 Q (pc + 3) st1) : VW D cA bs Z p l e rm s m args below meth c nL lv K n I J R cells slots Q pc st0 := by
  subst hs1 hce hsl
  intro H locs ls hh hn hS hl
  obtain ⟨f0, f1⟩ := f
  have hpv : PreS s H (PX D cA bs Z As K n I J R) As := ⟨PX.blind, fun U hU hW => PX.at C hh hn hS U hU hW⟩
  have hfix : CallFix p m c cc nL s args tb own := ⟨C.1, C.2.1, C.2.2.1, C.2.2.2.2.1, C.2.2.2.2.2.1⟩
  rcases f0.2.2.2 with h | ⟨host, h⟩
  · exact v_back C hS hl (va_runS hfix hM ⟨callB_of k C.2.2.2.2.2.1 f0.good rfl hrm.1 hrm.2.1 (C.2.2.2.2.2.1 _ f0.2.1) (C.2.2.2.2.2.1 _ h) f0.2.2.1 hrm.2.2, C.2.2.2.2.2.1 _ f1⟩ hpv rfl hk hl.1 hst0 (lv_room hst) hd hcs) kk
  · exact v_back C hS hl (va_runSN hfix hM ⟨va_cnB k C.2.2.2.2.2.1 f0.good rfl hrm.1 hrm.2.1 (C.2.2.2.2.2.2.2.1.2.1 _ h rfl) (C.2.2.2.2.2.1 _ f0.2.1) f0.2.2.1 hrm.2.2, C.2.2.2.2.2.1 _ f1, trivial⟩ hpv rfl hk hl.1 hst0 (lv_room hst) hd hcs) kk
/-! ends -/
theorem v_ret0 {v : Option Value} {Hx : Heap} {locs : List Loc} (hh : hv D cA bs Z K I J R Hx) (hn : Hx.size = n) (hS : va_S (fun q => bs ≤ q) s.heap Hx locs) : ∀ t : State, t.heap = Hx → s.WarmedH t.vm → QX D cA bs Z v K n I J R args s (.returned v) t := fun t ht _ => ⟨rfl, by rw [ht]; exact hh, by rw [ht]; exact hn, hS.F ht⟩
theorem v_iret (C : Cx D cA bs Z p s m args meth c cc own nL ret) {v : Int32} (hr : ret = some .int) (hd : decode cc pc = .ok (.ireturn, 1)) : VW D cA bs Z p l e rm s m args below meth c nL lv K n I J R cells slots (MQ below (QX D cA bs Z (some (.int v)) K n I J R) args s cells slots (fun q => bs ≤ q)) pc [.int v] := by
  intro H locs ls hh hn hS hl
  exact W.iret C.1 C.2.1 (C.2.2.2.1.trans hr) (v_ret0 hh hn hS) hS.2.2 hd C.2.2.2.2.2.2.1
theorem v_zret (C : Cx D cA bs Z p s m args meth c cc own nL ret) {v : Int32} {ty : FieldType} (hr : ret = some ty) (hnv : narrow ty (.int v) = .int v) (hd : decode cc pc = .ok (.ireturn, 1)) : VW D cA bs Z p l e rm s m args below meth c nL lv K n I J R cells slots (MQ below (QX D cA bs Z (some (.int v)) K n I J R) args s cells slots (fun q => bs ≤ q)) pc [.int v] := by
  intro H locs ls hh hn hS hl
  exact W.zret C.1 C.2.1 (C.2.2.2.1.trans hr) hnv (v_ret0 hh hn hS) hS.2.2 hd C.2.2.2.2.2.2.1
theorem v_lret (C : Cx D cA bs Z p s m args meth c cc own nL ret) {v : Int64} (hr : ret = some .long) (hd : decode cc pc = .ok (.lreturn, 1)) : VW D cA bs Z p l e rm s m args below meth c nL lv K n I J R cells slots (MQ below (QX D cA bs Z (some (.long v)) K n I J R) args s cells slots (fun q => bs ≤ q)) pc [.long v] := by
  intro H locs ls hh hn hS hl
  exact W.lret C.1 C.2.1 (C.2.2.2.1.trans hr) (v_ret0 hh hn hS) hS.2.2 hd C.2.2.2.2.2.2.1
theorem v_vret (C : Cx D cA bs Z p s m args meth c cc own nL ret) (hr : ret = none) (hd : decode cc pc = .ok (.return_, 1)) : VW D cA bs Z p l e rm s m args below meth c nL lv K n I J R cells slots (MQ below (QX D cA bs Z none K n I J R) args s cells slots (fun q => bs ≤ q)) pc [] := by
  intro H locs ls hh hn hS hl
  exact W.vret C.1 C.2.1 (C.2.2.2.1.trans hr) (v_ret0 hh hn hS) hS.2.2 hd C.2.2.2.2.2.2.1
theorem v_aret (C : Cx D cA bs Z p s m args meth c cc own nL ret) {r : Option Nat} {cn : String} (hr : ret = some (.object cn)) (hd : decode cc pc = .ok (.areturn, 1)) : VW D cA bs Z p l e rm s m args below meth c nL lv K n I J R cells slots (MQ below (QX D cA bs Z (some (va_rf r)) K n I J R) args s cells slots (fun q => bs ≤ q)) pc [va_rf r] := by
  intro H locs ls hh hn hS hl
  exact W.aret C.1 C.2.1 (C.2.2.2.1.trans hr) (Or.inl ⟨_, rfl⟩) (by cases r with | none => exact Or.inl rfl | some a => exact Or.inr ⟨a, rfl⟩) (v_ret0 hh hn hS) hS.2.2 hd C.2.2.2.2.2.2.1
/-- a contract out of a walk -/
theorem met_of {y : MethodName} {maxL mc ms : Nat} {ry : Option FieldType} {rmm : Room} {av : List Value} {rv : Option Value} {K1 : Sh} {n1 : Nat} {I1 : Im} {J1 : Jm} {R1 : Rf} {lv1 : List (Nat × Value)} (hy : plainName y.cls = true) (hav : (lg_sl av).length ≤ maxL) (hlv : lv_args 0 av = lv1)
    (body : ∀ (p : Program) (e : Env) (s : State) (m : MethodId) (args : Array Value) (below : List Frame) (meth : Method) (c : Code), Cx D cA bs Z p s m args meth c cc y.cls maxL ry → meth.name = y.name →
      VW D cA bs Z p l e rmm s m args below meth c maxL lv1 K n I J R 0 0 (MQ below (QX D cA bs Z rv K1 n1 I1 J1 R1) args s mc ms (fun q => bs ≤ q)) 0 []) :
    Met l y (Cond.code y cc maxL ry :: tb) rmm (PX D cA bs Z av K n I J R) (QX D cA bs Z rv K1 n1 I1 J1 R1) mc ms (fun q => bs ≤ q) := by
  refine Met.ofW (cc := cc) (maxL := maxL) (ret := ry) hy rfl ?_
  intro p e s m args below meth c s₁ B hml hv
  obtain ⟨rfl, hh, hn, hKK, hbs⟩ := hv
  have hts := atoms_spec (ws := Cond.code y cc maxL ry :: tb) B.pre
  have hown : s.vm.findClass y.cls = some m.cls := findClass_of_methodNamed B.named
  have hl := lv_entry av (n := maxL) hav
  rw [lg_entry_eq]
  exact body p e s m _ below meth c ⟨B.exec, B.bytes, hml, B.returns, hown, fun w hw => hts w (List.mem_cons_of_mem _ hw), B.notSynchronized, hKK, hbs⟩ (name_of_methodNamed B.named B.method).1 s.heap [] _ hh hn va_S.rf (hlv ▸ hl)
/-! names for values and maps -/
theorem v_nmI {x : Int32} {α : Type} {o : α} {F : Int32 → Option α} (E : Option.bind (some x) F = some o) (kk : ∀ v, v = x → F v = some o → VW D cA bs Z p l e rm s m args below meth c nL lv K n I J R cells slots Q pc (.int v :: st)) : VW D cA bs Z p l e rm s m args below meth c nL lv K n I J R cells slots Q pc (.int x :: st) := kk x rfl E
theorem v_nmJ {x : Int64} {α : Type} {o : α} {F : Int64 → Option α} (E : Option.bind (some x) F = some o) (kk : ∀ v, v = x → F v = some o → VW D cA bs Z p l e rm s m args below meth c nL lv K n I J R cells slots Q pc (.long v :: st)) : VW D cA bs Z p l e rm s m args below meth c nL lv K n I J R cells slots Q pc (.long x :: st) := kk x rfl E
theorem v_nmR {x : Option Nat} {α : Type} {o : α} {F : Option Nat → Option α} (E : Option.bind (some x) F = some o) (kk : ∀ v, v = x → F v = some o → VW D cA bs Z p l e rm s m args below meth c nL lv K n I J R cells slots Q pc (va_rf v :: st)) : VW D cA bs Z p l e rm s m args below meth c nL lv K n I J R cells slots Q pc (va_rf x :: st) := kk x rfl E
theorem v_mpI {α : Type} {o : α} {F : Im → Option α} (E : Option.bind (some I) F = some o) (kk : ∀ I1, I1 = I → F I1 = some o → VW D cA bs Z p l e rm s m args below meth c nL lv K n I1 J R cells slots Q pc st) : VW D cA bs Z p l e rm s m args below meth c nL lv K n I J R cells slots Q pc st := kk I rfl E
theorem v_mpJ {α : Type} {o : α} {F : Jm → Option α} (E : Option.bind (some J) F = some o) (kk : ∀ J1, J1 = J → F J1 = some o → VW D cA bs Z p l e rm s m args below meth c nL lv K n I J1 R cells slots Q pc st) : VW D cA bs Z p l e rm s m args below meth c nL lv K n I J R cells slots Q pc st := kk J rfl E
theorem v_mpR {α : Type} {o : α} {F : Rf → Option α} (E : Option.bind (some R) F = some o) (kk : ∀ R1, R1 = R → F R1 = some o → VW D cA bs Z p l e rm s m args below meth c nL lv K n I J R1 cells slots Q pc st) : VW D cA bs Z p l e rm s m args below meth c nL lv K n I J R cells slots Q pc st := kk R rfl E
theorem v_idivq (C : Cx D cA bs Z p s m args meth c cc own nL ret) {x y : Int32} {α : Type} {o : α} {F : Int32 → Option α} (E : Option.bind (if y = 0 then none else some (x / y)) F = some o) (hd : decode cc pc = .ok (.idiv, 1)) (kk : ∀ v, v = x / y → F v = some o → VW D cA bs Z p l e rm s m args below meth c nL lv K n I J R cells slots Q (pc + 1) (.int v :: st)) : VW D cA bs Z p l e rm s m args below meth c nL lv K n I J R cells slots Q pc (.int y :: .int x :: st) := by
  obtain ⟨v, h1, E⟩ := bnd E
  by_cases h : y = 0
  · rw [if_pos h] at h1; cases h1
  · rw [if_neg h] at h1; cases h1
    exact v_idiv C hd h (kk _ rfl E)
theorem v_iremq (C : Cx D cA bs Z p s m args meth c cc own nL ret) {x y : Int32} {α : Type} {o : α} {F : Int32 → Option α} (E : Option.bind (if y = 0 then none else some (irem x y)) F = some o) (hd : decode cc pc = .ok (.irem, 1)) (kk : ∀ v, v = irem x y → F v = some o → VW D cA bs Z p l e rm s m args below meth c nL lv K n I J R cells slots Q (pc + 1) (.int v :: st)) : VW D cA bs Z p l e rm s m args below meth c nL lv K n I J R cells slots Q pc (.int y :: .int x :: st) := by
  obtain ⟨v, h1, E⟩ := bnd E
  by_cases h : y = 0
  · rw [if_pos h] at h1; cases h1
  · rw [if_neg h] at h1; cases h1
    exact v_irem C hd h (kk _ rfl E)
theorem v_ldivq (C : Cx D cA bs Z p s m args meth c cc own nL ret) {x y : Int64} {α : Type} {o : α} {F : Int64 → Option α} (E : Option.bind (if y = 0 then none else some (x / y)) F = some o) (hd : decode cc pc = .ok (.ldiv, 1)) (kk : ∀ v, v = x / y → F v = some o → VW D cA bs Z p l e rm s m args below meth c nL lv K n I J R cells slots Q (pc + 1) (.long v :: st)) : VW D cA bs Z p l e rm s m args below meth c nL lv K n I J R cells slots Q pc (.long y :: .long x :: st) := by
  obtain ⟨v, h1, E⟩ := bnd E
  by_cases h : y = 0
  · rw [if_pos h] at h1; cases h1
  · rw [if_neg h] at h1; cases h1
    exact v_ldiv C hd h (kk _ rfl E)
theorem v_lremq (C : Cx D cA bs Z p s m args meth c cc own nL ret) {x y : Int64} {α : Type} {o : α} {F : Int64 → Option α} (E : Option.bind (if y = 0 then none else some (lrem x y)) F = some o) (hd : decode cc pc = .ok (.lrem, 1)) (kk : ∀ v, v = lrem x y → F v = some o → VW D cA bs Z p l e rm s m args below meth c nL lv K n I J R cells slots Q (pc + 1) (.long v :: st)) : VW D cA bs Z p l e rm s m args below meth c nL lv K n I J R cells slots Q pc (.long y :: .long x :: st) := by
  obtain ⟨v, h1, E⟩ := bnd E
  by_cases h : y = 0
  · rw [if_pos h] at h1; cases h1
  · rw [if_neg h] at h1; cases h1
    exact v_lrem C hd h (kk _ rfl E)
def FU : Nat := 1000000000
theorem mem_ps {ws big : List Cond} (ps : List Nat) (h : ws = ps.filterMap (fun i => big[i]?)) : ∀ w ∈ ws, w ∈ big := by
  intro w hw
  rw [h] at hw
  obtain ⟨i, -, hi⟩ := List.mem_filterMap.mp hw
  exact List.mem_of_getElem? hi
theorem tb_all {ws : List Cond} (ps : List Nat) (h : ws = ps.filterMap (fun i => lw_tbl[i]?)) (hg : ws.all goodWord = true) : ∀ w ∈ ws, w ∈ tb := fun w hw => tb_of (mem_ps ps h w hw) (List.all_eq_true.mp hg w hw)
end VNs
