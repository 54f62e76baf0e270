/-! THE HEAP AS FOUR MAPS. K a = (what the cell a is, its length): 0 none of ours, 1 + ci an object of class number ci of vwCl, 20 bytes, 21 ints, 22 longs, 23 booleans, 24 .. 26 references, 27 ints that are read only. I, J, R: ints, longs, references by cell and place. -/
abbrev Sh : Type := Nat → Nat × Nat
abbrev Im : Type := Nat → Nat → Int32
abbrev Jm : Type := Nat → Nat → Int64
abbrev Rf : Type := Nat → Nat → Option Nat
def u1 {α : Type} (f : Nat → α) (a : Nat) (v : α) : Nat → α := fun b => if b = a then v else f b
def u2 {α : Type} (f : Nat → Nat → α) (a k : Nat) (v : α) : Nat → Nat → α := fun b j => if b = a ∧ j = k then v else f b j
theorem u1_eq {α : Type} (f : Nat → α) (a : Nat) (v : α) : u1 f a v a = v := by simp [u1]
theorem u1_ne {α : Type} {f : Nat → α} {a b : Nat} {v : α} (h : b ≠ a) : u1 f a v b = f b := by simp [u1, h]
theorem u2_eq {α : Type} (f : Nat → Nat → α) (a k : Nat) (v : α) : u2 f a k v a k = v := by simp [u2]
theorem u2_row {α : Type} {f : Nat → Nat → α} {a b k : Nat} {v : α} (h : b ≠ a) : u2 f a k v b = f b := by funext j; simp [u2, h]
theorem u2_ne {α : Type} {f : Nat → Nat → α} {a b k j : Nat} {v : α} (h : j ≠ k) : u2 f a k v b j = f b j := by simp [u2, h]
def fty (ci k : Nat) : FieldType := match ci with
  | 0 => tyX0 k | 1 => tyX1 k | 2 => tyX2 k | 3 => tyX3 k | 4 => tyX4 k | 5 => tyX5 k | 6 => tyX6 k | 7 => tyX7 k | 8 => tyX8 k | 9 => tyX9 k | 10 => tyX10 k | 11 => tyX11 k | _ => tyX12 k
def isRf (ci k : Nat) : Bool := match fty ci k with
  | .object _ => true
  | .array _ => true
  | _ => false
def nfl (ci : Nat) : Nat := match ci with
  | 0 => 2 | 1 => 3 | 2 => 6 | 3 => 10 | 4 => 10 | 5 => 5 | 6 => 7 | 7 => 3 | 8 => 8 | 9 => 9 | 10 => 4 | 11 => 19 | _ => 73
abbrev vwCl : List vw_C := [(RX0, TX0, 2), (RX1, TX1, 3), (RX2, TX2, 6), (RX3, TX3, 10), (RX4, TX4, 10), (RX5, TX5, 5), (RX6, TX6, 7), (RX7, TX7, 3), (RX8, TX8, 8), (RX9, TX9, 9), (RX10, TX10, 4), (RX11, TX11, 19), (RX12, TX12, 73)]
def h_fs (ci : Nat) (I : Im) (R : Rf) (a : Nat) : List Value := (List.range (nfl ci)).map (fun k => if isRf ci k = true then va_rf (R a k) else .int (I a k))
theorem h_fs_len (ci : Nat) (I : Im) (R : Rf) (a : Nat) : (h_fs ci I R a).length = nfl ci := by simp [h_fs]
theorem h_fs_int {ci k : Nat} {I : Im} {R : Rf} {a : Nat} (hk : k < nfl ci) (hr : isRf ci k = false) : (h_fs ci I R a)[k]? = some (.int (I a k)) := by simp [h_fs, hk, hr]
theorem h_fs_ref {ci k : Nat} {I : Im} {R : Rf} {a : Nat} (hk : k < nfl ci) (hr : isRf ci k = true) : (h_fs ci I R a)[k]? = some (va_rf (R a k)) := by simp [h_fs, hk, hr]
theorem h_fs_putI {ci k : Nat} {I : Im} {R : Rf} {a : Nat} {v : Int32} (hr : isRf ci k = false) : h_fs ci (u2 I a k v) R a = (h_fs ci I R a).set k (.int v) := by
  apply List.ext_getElem?
  intro j
  by_cases hj : j = k
  · subst hj
    by_cases hl : j < nfl ci
    · rw [h_fs_int hl hr, u2_eq, List.getElem?_set_self (by rw [h_fs_len]; exact hl)]
    · rw [List.getElem?_eq_none (by rw [h_fs_len]; omega), List.getElem?_eq_none (by rw [List.length_set, h_fs_len]; omega)]
  · rw [List.getElem?_set_ne (fun q => hj q.symm)]
    by_cases hl : j < nfl ci
    · simp [h_fs, u2, hj, hl]
    · rw [List.getElem?_eq_none (by rw [h_fs_len]; omega), List.getElem?_eq_none (by rw [h_fs_len]; omega)]
theorem h_fs_putR {ci k : Nat} {I : Im} {R : Rf} {a : Nat} {v : Option Nat} (hr : isRf ci k = true) : h_fs ci I (u2 R a k v) a = (h_fs ci I R a).set k (va_rf v) := by
  apply List.ext_getElem?
  intro j
  by_cases hj : j = k
  · subst hj
    by_cases hl : j < nfl ci
    · rw [h_fs_ref hl hr, u2_eq, List.getElem?_set_self (by rw [h_fs_len]; exact hl)]
    · rw [List.getElem?_eq_none (by rw [h_fs_len]; omega), List.getElem?_eq_none (by rw [List.length_set, h_fs_len]; omega)]
  · rw [List.getElem?_set_ne (fun q => hj q.symm)]
    by_cases hl : j < nfl ci
    · simp [h_fs, u2, hj, hl]
    · rw [List.getElem?_eq_none (by rw [h_fs_len]; omega), List.getElem?_eq_none (by rw [h_fs_len]; omega)]
/-- the cell at an address -/
def h_cell (cA : Nat → ClassId) (K : Sh) (I : Im) (J : Jm) (R : Rf) (a : Nat) : Option va_E :=
  if (K a).1 = 0 then none
  else if (K a).1 ≤ 13 then some (.inr ((K a).1 - 1, h_fs ((K a).1 - 1) I R a))
  else if (K a).1 = 22 then some (.inl (cA 22, (K a).2, .inr (.inl (J a))))
  else if (K a).1 = 24 ∨ (K a).1 = 25 ∨ (K a).1 = 26 then some (.inl (cA (K a).1, (K a).2, .inr (.inr (.inr (.inr (R a))))))
  else if (K a).1 = 27 then none
  else some (.inl (cA (K a).1, (K a).2, .inl (I a)))
-- static arrays: their lengths and what they hold
def zL (i : Nat) : Nat := match i with | 0 => 7 | 1 => 18 | _ => 21
def zD (i j : Nat) : Int32 := match i with
  | 0 => ([-1, 0, 0, 0, 1, 1, 2] : List Int32).getD j 0
  | 1 => ([0, 1, 2, 0, 2, 1, 1, 0, 2, 1, 2, 0, 2, 0, 1, 2, 1, 0] : List Int32).getD j 0
  | _ => ([10, 11, 12, 0, 20, 0, 30, 0, 0, 0, 0, 40, 50, 51, 0, 0, 0, 60, 71, 70, 0] : List Int32).getD j 0
def hz (Z : Nat → Nat) (K : Sh) (I : Im) : Prop := ∀ a, (K a).1 = 27 → ∃ i, i < 3 ∧ a = Z i ∧ (K a).2 = zL i ∧ ∀ j, j < zL i → I a j = zD i j
def hv (D : va_G) (cA : Nat → ClassId) (bs : Nat) (Z : Nat → Nat) (K : Sh) (I : Im) (J : Jm) (R : Rf) (H : Heap) : Prop :=
  (∀ a e, h_cell cA K I J R a = some e → va_at D vwCl (a, e) H ∧ bs ≤ a) ∧ hz Z K I
theorem h_cell_obj {cA : Nat → ClassId} {K : Sh} {I : Im} {J : Jm} {R : Rf} {a ci : Nat} (h : (K a).1 = ci + 1) (hc : ci ≤ 12) : h_cell cA K I J R a = some (.inr (ci, h_fs ci I R a)) := by
  unfold h_cell
  rw [h, if_neg (by omega), if_pos (by omega)]
  rfl
theorem h_cell_int {cA : Nat → ClassId} {K : Sh} {I : Im} {J : Jm} {R : Rf} {a t : Nat} (h : (K a).1 = t) (ht : t = 20 ∨ t = 21 ∨ t = 23) : h_cell cA K I J R a = some (.inl (cA t, (K a).2, .inl (I a))) := by
  unfold h_cell
  rw [h, if_neg (by omega), if_neg (by omega), if_neg (by omega), if_neg (by omega), if_neg (by omega)]
theorem h_cell_long {cA : Nat → ClassId} {K : Sh} {I : Im} {J : Jm} {R : Rf} {a : Nat} (h : (K a).1 = 22) : h_cell cA K I J R a = some (.inl (cA 22, (K a).2, .inr (.inl (J a)))) := by
  unfold h_cell
  rw [h]
  rfl
theorem h_cell_ref {cA : Nat → ClassId} {K : Sh} {I : Im} {J : Jm} {R : Rf} {a t : Nat} (h : (K a).1 = t) (ht : t = 24 ∨ t = 25 ∨ t = 26) : h_cell cA K I J R a = some (.inl (cA t, (K a).2, .inr (.inr (.inr (.inr (R a)))))) := by
  unfold h_cell
  rw [h, if_neg (by omega), if_neg (by omega), if_neg (by omega), if_pos ht]
/-- the other cells' data don't matter -/
theorem h_cell_congr {cA : Nat → ClassId} {K K' : Sh} {I I' : Im} {J J' : Jm} {R R' : Rf} {a : Nat} (hK : K' a = K a) (hI : I' a = I a) (hJ : J' a = J a) (hR : R' a = R a) : h_cell cA K' I' J' R' a = h_cell cA K I J R a := by
  have h : ∀ ci, h_fs ci I' R' a = h_fs ci I R a := fun ci => by simp only [h_fs, hI, hR]
  simp only [h_cell, hK, hI, hJ, hR, h]
/-- a write to the cell a, which is e then -/
theorem hv.write {D : va_G} {cA : Nat → ClassId} {bs : Nat} {Z : Nat → Nat} {K : Sh} {I I' : Im} {J J' : Jm} {R R' : Rf} {H H' : Heap} {a : Nat} {e : va_E} (h : hv D cA bs Z K I J R H) (hI : ∀ b, b ≠ a → I' b = I b) (hJ : ∀ b, b ≠ a → J' b = J b) (hR : ∀ b, b ≠ a → R' b = R b)
    (he : h_cell cA K I' J' R' a = some e) (h0 : ∃ e0, h_cell cA K I J R a = some e0) (ha : va_at D vwCl (a, e) H') (oq : ∀ q, q ≠ a → H'[q]? = H[q]?) : hv D cA bs Z K I' J' R' H' := by
  refine ⟨fun b eb hb => ?_, fun b hb => ?_⟩
  · by_cases hba : b = a
    · subst hba
      rw [he] at hb
      cases hb
      obtain ⟨e0, h0⟩ := h0
      exact ⟨ha, (h.1 b e0 h0).2⟩
    · rw [h_cell_congr rfl (hI b hba) (hJ b hba) (hR b hba)] at hb
      exact ⟨(h.1 b eb hb).1.kept (oq b hba), (h.1 b eb hb).2⟩
  · have hba : b ≠ a := fun q => by
      subst q
      obtain ⟨e0, h0⟩ := h0
      unfold h_cell at h0
      rw [hb] at h0
      simp at h0
    rw [hI b hba]
    exact h.2 b hb
/-- a new cell, behind all -/
theorem hv.grow {D : va_G} {cA : Nat → ClassId} {bs n : Nat} {Z : Nat → Nat} {K K' : Sh} {I I' : Im} {J J' : Jm} {R R' : Rf} {H H' : Heap} {e : va_E} (h : hv D cA bs Z K I J R H) (hn : H.size = n) (hbn : bs ≤ n) (hK : ∀ b, b ≠ n → K' b = K b) (hI : ∀ b, b ≠ n → I' b = I b) (hJ : ∀ b, b ≠ n → J' b = J b) (hR : ∀ b, b ≠ n → R' b = R b)
    (he : h_cell cA K' I' J' R' n = some e) (ha : va_at D vwCl (n, e) H') (oq : ∀ q, q < n → H'[q]? = H[q]?) : hv D cA bs Z K' I' J' R' H' := by
  refine ⟨fun b eb hb => ?_, fun b hb => ?_⟩
  · by_cases hba : b = n
    · subst hba
      rw [he] at hb
      cases hb
      exact ⟨ha, hbn⟩
    · rw [h_cell_congr (hK b hba) (hI b hba) (hJ b hba) (hR b hba)] at hb
      have h1 := h.1 b eb hb
      have hl : b < H.size := h1.1.lt
      exact ⟨h1.1.kept (oq b (by omega)), h1.2⟩
  · have hba : b ≠ n := fun q => by
      subst q
      unfold h_cell at he
      rw [hb] at he
      simp at he
    rw [hK b hba, hI b hba]
    exact h.2 b (by rw [← hK b hba]; exact hb)
-- the tables' words that every method's contract carries; nest mates' words apart
def tb : List Cond := lw_tbl.filter goodWord
def nst : Cond → Bool
  | .fieldLinkNest .. => true
  | .methodLinkNest .. => true
  | _ => false
theorem tb_of {w : Cond} (h : w ∈ lw_tbl) (hg : goodWord w = true) : w ∈ tb := List.mem_filter.mpr ⟨h, hg⟩
theorem tb_good {cw : Cond} (hc : cw ∈ tb) {ws : List Cond} : GoodIn (ws ++ tb) (cw :: tb) := by
  intro w hw
  have hm : w ∈ tb := (List.mem_cons.mp hw).elim (fun e => e ▸ hc) id
  exact ⟨List.mem_append_right _ hm, good_of_word (List.mem_filter.mp hm).2⟩
def aty (t : Nat) : FieldType := match t with
  | 0 => .byte | 1 => .int | 2 => .long | 3 => .boolean | 4 => .object "SlowWells$Caravan" | 5 => .object "SlowWells$Rule" | _ => .object "SlowWells$Tape"
def atys (cA : Nat → ClassId) : List (ClassId × FieldType) := (List.range 7).map (fun t => (cA (20 + t), aty t))
-- static arrays: class, name
def zC (i : Nat) : String := match i with | 0 => RX11 | 1 => RX11 | _ => RX0
def zN (i : Nat) : String := match i with | 0 => "ABOVE" | 1 => "ORDERS" | _ => "BODIES"
-- the class' String constants: where they are loaded, what they say
def sIx (i : Nat) : Nat := match i with | 0 => 77 | 1 => 94 | 2 => 98 | 3 => 102 | 4 => 106 | _ => 112
def sTx (i : Nat) : String := match i with | 0 => "drink" | 1 => "carry" | 2 => "load" | 3 => "stand" | 4 => "way" | _ => "well"
def sTxt (i : Nat) : List Nat := match i with
  | 0 => [100, 114, 105, 110, 107]
  | 1 => [99, 97, 114, 114, 121]
  | 2 => [108, 111, 97, 100]
  | 3 => [115, 116, 97, 110, 100]
  | 4 => [119, 97, 121]
  | _ => [119, 101, 108, 108]
def sLen : List Nat := (List.range 6).map (fun i => (sTxt i).length)
def sByt : List (List Int32) := (List.range 6).map (fun i => (sTxt i).map Int32.ofNat)
def aoN (t : Nat) : String := match t with | 4 => "SlowWells$Caravan" | 5 => "SlowWells$Rule" | _ => "SlowWells$Tape"
/-- what holds of the tables, the statics and the String constants at a state -/
def KK (D : va_G) (cA : Nat → ClassId) (bs : Nat) (Z : Nat → Nat) (U : State) : Prop :=
  va_K D vwCl (atys cA) U ∧ (∀ w ∈ lw_tbl, nst w = true → va_Nw w U) ∧ (∀ i, i < 3 → va_Z (zC i) (zN i) "[I" (.ref (Z i)) (fun q => bs ≤ q) U U.heap) ∧
  (∀ t, va_AO (aoN t) U) ∧ vk_S 6 sLen sByt (fun i => Z (10 + i)) (fun i => Z (20 + i)) (fun q => bs ≤ q) U U.heap ∧ (∀ i, i < 6 → vk_R RX4 (sIx i) (sTx i) (Z (10 + i)) U) ∧
  va_Z "java/lang/String" "COMPACT_STRINGS" "Z" (.int 1) (fun q => bs ≤ q) U U.heap ∧ va_Zq "jdk/internal/util/Preconditions" "SIOOBE_FORMATTER" "Ljava/util/function/BiFunction;" (fun q => bs ≤ q) U U.heap ∧
  ∀ i, i < 3 → va_T .int (Z i) (zL i) (fun j => .int (zD i j)) (fun q => bs ≤ q) U U.heap
theorem KK.goes {D : va_G} {cA : Nat → ClassId} {bs : Nat} {Z : Nat → Nat} {s U : State} (h : KK D cA bs Z s) (hW : s.WarmedH U.vm) (hq : ∀ q : Nat, q < s.heap.size → ¬ bs ≤ q → U.heap[q]? = s.heap[q]?) : KK D cA bs Z U := by
  obtain ⟨h1, h2, h3, h4, h5, h6, h7, h8, h9⟩ := h
  refine ⟨va_K.moved hW.alike h1, fun w hw hn => ?_, fun i hi => (va_Z.moved hW.alike (h3 i hi)).kept hq, fun t => va_AO.moved hW.alike (h4 t), (vk_S.moved hW.alike h5).kept hq, fun i hi => (h6 i hi).warm hW, (va_Z.moved hW.alike h7).kept hq, ?_, fun i hi => (va_T.moved hW.alike (h9 i hi)).kept hq⟩
  · have h4 := h2 w hw hn
    cases w <;> first | (exact absurd hn (by decide)) | (exact va_Nw.warmF hW h4) | (exact va_Nw.warmM hW h4) | (cases hn)
  · rcases h8 with h | ⟨t, h⟩
    · exact Or.inl ((va_Z.moved hW.alike h).kept hq)
    · exact Or.inr ⟨t, (va_Z.moved hW.alike h).kept hq⟩
theorem KK.same {D : va_G} {cA : Nat → ClassId} {bs : Nat} {Z : Nat → Nat} {s U : State} (h : KK D cA bs Z s) (hv : s.vm = U.vm) (hh : U.heap = s.heap) : KK D cA bs Z U := by
  obtain ⟨h1, h2, h3, h4, h5, h6, h7, h8, h9⟩ := h
  have hal : s.vm.Alike U.vm := by rw [hv]; exact Vm.Alike.refl _
  refine ⟨va_K.moved hal h1, fun w hw hn => ?_, fun i hi => ?_, fun t => va_AO.moved hal (h4 t), ?_, fun i hi => vk_R.same hv.symm (h6 i hi), ?_, ?_, fun i hi => ?_⟩
  · have h4 := h2 w hw hn
    have ht : w.onTables = true := by cases w <;> first | rfl | (cases hn)
    exact h4.same ht hv
  · rw [hh]; exact va_Z.moved hal (h3 i hi)
  · rw [hh]; exact vk_S.moved hal h5
  · rw [hh]; exact va_Z.moved hal h7
  · rw [hh]
    rcases h8 with h | ⟨t, h⟩
    · exact Or.inl (va_Z.moved hal h)
    · exact Or.inr ⟨t, va_Z.moved hal h⟩
  · rw [hh]; exact va_T.moved hal (h9 i hi)
