/-! THE START: the tables, statics and constants as KK wants them -/
theorem st_el0 : ∀ j, j < 7 → (Cond.eq (.elem (.static "SlowWells" "ABOVE" "[I") (.int (Int32.ofNat j))) (.int (zD 0 j))) ∈ flatC (Jvm.Cond.and given_1 narrow_1) := by decide +kernel
theorem st_el1 : ∀ j, j < 18 → (Cond.eq (.elem (.static "SlowWells" "ORDERS" "[I") (.int (Int32.ofNat j))) (.int (zD 1 j))) ∈ flatC (Jvm.Cond.and given_1 narrow_1) := by decide +kernel
theorem st_el2 : ∀ j, j < 21 → (Cond.eq (.elem (.static "SlowWells$Acts" "BODIES" "[I") (.int (Int32.ofNat j))) (.int (zD 2 j))) ∈ flatC (Jvm.Cond.and given_1 narrow_1) := by decide +kernel
def sTm (i : Nat) : Term := .string RX4 (sIx i)
theorem st_s0 : ∀ i, i < 6 → (Cond.exactly (sTm i) "java/lang/String") ∈ flatC (Jvm.Cond.and given_1 narrow_1) := by decide +kernel
theorem st_s1 : ∀ i, i < 6 → (Cond.eq (.field (sTm i) "java/lang/String" "coder" "B") (.int 0)) ∈ flatC (Jvm.Cond.and given_1 narrow_1) := by decide +kernel
theorem st_s2 : ∀ i, i < 6 → (Cond.arrayOf (.field (sTm i) "java/lang/String" "value" "[B") .byte) ∈ flatC (Jvm.Cond.and given_1 narrow_1) := by decide +kernel
theorem st_s3 : ∀ i, i < 6 → (Cond.eq (.length (.field (sTm i) "java/lang/String" "value" "[B")) (.int (Int32.ofNat (sLen.getD i 0)))) ∈ flatC (Jvm.Cond.and given_1 narrow_1) := by decide +kernel
theorem st_s4 : ∀ i, i < 6 → ∀ j, j < sLen.getD i 0 → (Cond.eq (.elem (.field (sTm i) "java/lang/String" "value" "[B") (.int (Int32.ofNat j))) (.int ((sByt.getD i []).getD j 0))) ∈ flatC (Jvm.Cond.and given_1 narrow_1) := by decide +kernel
theorem st_s5 : ∀ i, i < 6 → ∀ j, j < 6 → i ≠ j → (Cond.not (Cond.eq (sTm i) (sTm j))) ∈ flatC (Jvm.Cond.and given_1 narrow_1) ∨ (Cond.not (Cond.eq (sTm j) (sTm i))) ∈ flatC (Jvm.Cond.and given_1 narrow_1) := by decide +kernel
theorem st_nl : ∀ i, i < 6 → Cond.stringRef RX4 (sIx i) (sTx i) ∈ lw_tbl := by decide +kernel
theorem st_ao : ∀ t, t < 3 → Cond.arrayOver (.object (aoN (t + 4))) ∈ lw_tbl := by decide +kernel
theorem st_ac : ∀ t, t < 4 → Cond.arrayClass (aty t) ∈ lw_tbl := by decide +kernel
theorem stt_ls : Cond.laysStatic "SlowWells" "ABOVE" "[I" ∈ lw_tbl ∧ Cond.laysStatic "SlowWells" "ORDERS" "[I" ∈ lw_tbl ∧ Cond.laysStatic "SlowWells$Acts" "BODIES" "[I" ∈ lw_tbl ∧ Cond.laysStatic "java/lang/String" "COMPACT_STRINGS" "Z" ∈ lw_tbl ∧ Cond.laysStatic "jdk/internal/util/Preconditions" "SIOOBE_FORMATTER" "Ljava/util/function/BiFunction;" ∈ lw_tbl := by decide +kernel
theorem st_in : Cond.initialized "SlowWells" ∈ lw_tbl ∧ Cond.initialized "SlowWells$Acts" ∈ lw_tbl ∧ Cond.initialized "java/lang/String" ∈ lw_tbl ∧ Cond.initialized "jdk/internal/util/Preconditions" ∈ lw_tbl := by decide +kernel
theorem st_ev : (Cond.arrayOf (.static "SlowWells" "ABOVE" "[I") .int) ∈ flatC (Jvm.Cond.and given_1 narrow_1) ∧ (Cond.arrayOf (.static "SlowWells" "ORDERS" "[I") .int) ∈ flatC (Jvm.Cond.and given_1 narrow_1) ∧ (Cond.arrayOf (.static "SlowWells$Acts" "BODIES" "[I") .int) ∈ flatC (Jvm.Cond.and given_1 narrow_1) ∧ (Cond.eq (.length (.static "SlowWells" "ABOVE" "[I")) (.int 7)) ∈ flatC (Jvm.Cond.and given_1 narrow_1) ∧ (Cond.eq (.length (.static "SlowWells" "ORDERS" "[I")) (.int 18)) ∈ flatC (Jvm.Cond.and given_1 narrow_1) ∧ (Cond.eq (.length (.static "SlowWells$Acts" "BODIES" "[I")) (.int 21)) ∈ flatC (Jvm.Cond.and given_1 narrow_1) ∧ (Cond.eq (.static "java/lang/String" "COMPACT_STRINGS" "Z") (.int 1)) ∈ flatC (Jvm.Cond.and given_1 narrow_1) ∧ (Cond.isRef (.static "jdk/internal/util/Preconditions" "SIOOBE_FORMATTER" "Ljava/util/function/BiFunction;")) ∈ flatC (Jvm.Cond.and given_1 narrow_1) := by decide +kernel
theorem st_arr {s : State} {args : Array Value} (hts : ∀ w ∈ lw_tbl, w.before args s = true) : ∀ t : Nat, ∃ cA : ClassId, t < 7 → ArrOfT s cA (aty t) ∧ va_RA s cA (aty t) := by
  intro t
  by_cases h4 : t < 4
  · obtain ⟨cA, kA, comp, h1, h2, h3⟩ := Cond.arrayClass_spec (args := args) (first := s) (o := none) (s := s) (idx := []) (hts _ (st_ac t h4))
    refine ⟨cA, fun _ => ⟨fun n z => ⟨fun k h => (by cases h), kA, h2, comp, h3⟩, ?_⟩⟩
    rcases (show t = 0 ∨ t = 1 ∨ t = 2 ∨ t = 3 by omega) with rfl | rfl | rfl | rfl <;> exact h1
  · by_cases h7 : t < 7
    · obtain ⟨comp, cA, kA, h1, h2, h3, h5, h6⟩ := Cond.arrayOver_spec (args := args) (first := s) (o := none) (s := s) (idx := []) (hts _ (st_ao (t - 4) (by omega)))
      have he : aty t = .object (aoN (t - 4 + 4)) := by rcases (show t = 4 ∨ t = 5 ∨ t = 6 by omega) with rfl | rfl | rfl <;> rfl
      rw [he]
      exact ⟨cA, fun _ => ⟨fun n z => ⟨fun k h => (by cases h), kA, h3, comp, h5⟩, kA, comp, h3, h5, h1, h6⟩⟩
    · exact ⟨0, fun h => absurd h h7⟩
theorem st_cls {s : State} {args : Array Value} (hts : ∀ w ∈ lw_tbl, w.before args s = true) : ∀ ci : Nat, ∃ q : ClassId × (Nat → Nat), ∀ r, vwCl[ci]? = some r → u_Kn s r.1 r.2.1 r.2.2 q.1 q.2 := by
  have htb : ∀ w ∈ tb, w.before args s = true := fun w h => hts w (List.mem_filter.mp h).1
  intro ci
  match ci with
  | 0 =>
    obtain ⟨cC, iS, h⟩ := u_known (C := RX0) (T := TX0) (N := 2) (n := 2) htb inX0 (hts _ (in_t1 _ (List.mem_of_getElem? (i := 131) rfl)))
    exact ⟨(cC, iS), fun r hr => by cases hr; exact h⟩
  | 1 =>
    obtain ⟨cC, iS, h⟩ := u_known (C := RX1) (T := TX1) (N := 3) (n := 3) htb inX1 (hts _ (in_t2 _ (List.mem_of_getElem? (i := 59) rfl)))
    exact ⟨(cC, iS), fun r hr => by cases hr; exact h⟩
  | 2 =>
    obtain ⟨cC, iS, h⟩ := u_known (C := RX2) (T := TX2) (N := 6) (n := 6) htb inX2 (hts _ (in_t1 _ (List.mem_of_getElem? (i := 219) rfl)))
    exact ⟨(cC, iS), fun r hr => by cases hr; exact h⟩
  | 3 =>
    obtain ⟨cC, iS, h⟩ := u_known (C := RX3) (T := TX3) (N := 10) (n := 10) htb inX3 (hts _ (in_t1 _ (List.mem_of_getElem? (i := 181) rfl)))
    exact ⟨(cC, iS), fun r hr => by cases hr; exact h⟩
  | 4 =>
    obtain ⟨cC, iS, h⟩ := u_known (C := RX4) (T := TX4) (N := 10) (n := 10) htb inX4 (hts _ (in_t1 _ (List.mem_of_getElem? (i := 29) rfl)))
    exact ⟨(cC, iS), fun r hr => by cases hr; exact h⟩
  | 5 =>
    obtain ⟨cC, iS, h⟩ := u_known (C := RX5) (T := TX5) (N := 5) (n := 5) htb inX5 (hts _ (in_t3 _ (List.mem_of_getElem? (i := 110) rfl)))
    exact ⟨(cC, iS), fun r hr => by cases hr; exact h⟩
  | 6 =>
    obtain ⟨cC, iS, h⟩ := u_known (C := RX6) (T := TX6) (N := 7) (n := 7) htb inX6 (hts _ (in_t1 _ (List.mem_of_getElem? (i := 73) rfl)))
    exact ⟨(cC, iS), fun r hr => by cases hr; exact h⟩
  | 7 =>
    obtain ⟨cC, iS, h⟩ := u_known (C := RX7) (T := TX7) (N := 3) (n := 3) htb inX7 (hts _ (in_t2 _ (List.mem_of_getElem? (i := 81) rfl)))
    exact ⟨(cC, iS), fun r hr => by cases hr; exact h⟩
  | 8 =>
    obtain ⟨cC, iS, h⟩ := u_known (C := RX8) (T := TX8) (N := 8) (n := 8) htb inX8 (hts _ (in_t1 _ (List.mem_of_getElem? (i := 146) rfl)))
    exact ⟨(cC, iS), fun r hr => by cases hr; exact h⟩
  | 9 =>
    obtain ⟨cC, iS, h⟩ := u_known (C := RX9) (T := TX9) (N := 9) (n := 9) htb inX9 (hts _ (in_t2 _ (List.mem_of_getElem? (i := 7) rfl)))
    exact ⟨(cC, iS), fun r hr => by cases hr; exact h⟩
  | 10 =>
    obtain ⟨cC, iS, h⟩ := u_known (C := RX10) (T := TX10) (N := 4) (n := 4) htb inX10 (hts _ (in_t1 _ (List.mem_of_getElem? (i := 79) rfl)))
    exact ⟨(cC, iS), fun r hr => by cases hr; exact h⟩
  | 11 =>
    obtain ⟨cC, iS, h⟩ := u_known (C := RX11) (T := TX11) (N := 19) (n := 19) htb inX11 (hts _ (in_t1 _ (List.mem_of_getElem? (i := 21) rfl)))
    exact ⟨(cC, iS), fun r hr => by cases hr; exact h⟩
  | 12 =>
    obtain ⟨cC, iS, h⟩ := u_known (C := RX12) (T := TX12) (N := 73) (n := 73) htb inX12 (hts _ (in_t4 _ (List.mem_of_getElem? (i := 219) rfl)))
    exact ⟨(cC, iS), fun r hr => by cases hr; exact h⟩
  | k + 13 => exact ⟨(0, fun _ => 0), fun r hr => by simp [vwCl] at hr⟩
theorem st_zz {U : State} {H : Heap} {A : Nat → Prop} {t N M : Nat} {f g : Nat → Value} (hN : N < 100) (hM : M < 100) (h : va_T .int t N f A U H) (h2 : va_T .int t M g A U H) : N = M := by
  obtain ⟨c1, a1, -, -, -, a2, -⟩ := h
  obtain ⟨c2, b1, -, -, -, b2, -⟩ := h2
  cases a1.symm.trans b1
  have e := a2.symm.trans b2
  exact (nI_eq (a := N) (b := M) (by omega) (by omega)).mp e
set_option maxHeartbeats 4000000 in
theorem whole_start {p : Program} {e : Env} {s : State} {m : MethodId} {below : List Frame} {meth : Method} {c : Code} (l : Launch) (hflags : l.flags = flags0) {b L : Nat} {xs : Nat → Int32} (hL : L ≤ 3072) (C0 : lw_At p s m meth c b L xs) : W p l e room_1 s m #[Value.ref b] below meth c s.heap [] 0 0 (lw_Z below #[Value.ref b] s) (entryFrame m ([Value.ref b] : List Value).toArray 4) := by
  obtain ⟨hx, hb, hr, hml, hown, hts, hX, hbl, hlocks, hgv⟩ := C0
  have hs := flat_of_before _ hgv
  have htb : ∀ w ∈ tb, w.before #[Value.ref b] s = true := fun w h => hts w (List.mem_filter.mp h).1
  have hA : ∀ a : Nat, a < s.heap.size → ¬ (fun q : Nat => s.heap.size ≤ q) a := fun a h => Nat.not_le.mpr h
  obtain ⟨ad, had⟩ := Classical.axiomOfChoice (st_cls hts)
  obtain ⟨ar, har⟩ := Classical.axiomOfChoice (st_arr hts)
  obtain ⟨e1, e2, e3, e4, e5, e6, e7, e8⟩ := st_ev
  obtain ⟨l1, l2, l3, l4, l5⟩ := stt_ls
  obtain ⟨i1, i2, i3, i4⟩ := st_in
  obtain ⟨z0, hz0, ht0⟩ := va_Tof (args := #[Value.ref b]) (s := s) (N := 7) (f := fun j => .int (zD 0 j)) (A := fun q : Nat => s.heap.size ≤ q) (by decide) (hs _ e1) (va_eqt (hs _ e4)) (fun j hj => va_eqt (hs _ (st_el0 j hj))) hA
  obtain ⟨z1, hz1, ht1⟩ := va_Tof (args := #[Value.ref b]) (s := s) (N := 18) (f := fun j => .int (zD 1 j)) (A := fun q : Nat => s.heap.size ≤ q) (by decide) (hs _ e2) (va_eqt (hs _ e5)) (fun j hj => va_eqt (hs _ (st_el1 j hj))) hA
  obtain ⟨z2, hz2, ht2⟩ := va_Tof (args := #[Value.ref b]) (s := s) (N := 21) (f := fun j => .int (zD 2 j)) (A := fun q : Nat => s.heap.size ≤ q) (by decide) (hs _ e3) (va_eqt (hs _ e6)) (fun j hj => va_eqt (hs _ (st_el2 j hj))) hA
  obtain ⟨adK, adV, hvk, hev⟩ := vk_Sof (args := #[Value.ref b]) (s := s) (N := 6) (tm := sTm) (len := sLen) (byt := sByt) (A := fun q : Nat => s.heap.size ≤ q) (fun i hi => by have := (sc_fin i hi).2; omega) (fun i hi => hs _ (st_s0 i hi)) (fun i hi => hs _ (st_s1 i hi)) (fun i hi => hs _ (st_s2 i hi)) (fun i hi => hs _ (st_s3 i hi)) (fun i hi j hj => hs _ (st_s4 i hi j hj)) (fun i j hi hj h => (st_s5 i hi j hj h).elim (fun q => Or.inl (hs _ q)) (fun q => Or.inr (hs _ q))) hA
  obtain ⟨Z, hZd⟩ : ∃ Z : Nat → Nat, Z = fun k => if k < 10 then (if k = 0 then z0 else if k = 1 then z1 else z2) else if k < 20 then adK (k - 10) else adV (k - 20) := ⟨_, rfl⟩
  have hZ0 : Z 0 = z0 := by rw [hZd]; rfl
  have hZ1 : Z 1 = z1 := by rw [hZd]; rfl
  have hZ2 : Z 2 = z2 := by rw [hZd]; rfl
  have hZk : ∀ i, i < 6 → Z (10 + i) = adK i := fun i hi => by
    rw [hZd]
    show (if 10 + i < 10 then _ else if 10 + i < 20 then _ else _) = _
    rw [if_neg (by omega), if_pos (by omega), show 10 + i - 10 = i by omega]
  have hZv : ∀ i, Z (20 + i) = adV i := fun i => by
    rw [hZd]
    show (if 20 + i < 10 then _ else if 20 + i < 20 then _ else _) = _
    rw [if_neg (by omega), if_neg (by omega), show 20 + i - 20 = i by omega]
  have hT : ∀ i, i < 3 → va_T .int (Z i) (zL i) (fun j => .int (zD i j)) (fun q : Nat => s.heap.size ≤ q) s s.heap := fun i hi => by
    rcases (show i = 0 ∨ i = 1 ∨ i = 2 by omega) with rfl | rfl | rfl
    · rw [hZ0]; exact ht0
    · rw [hZ1]; exact ht1
    · rw [hZ2]; exact ht2
  have hKK : KK (fun c => (ad c).1, fun c => (ad c).2) (fun x => ar (x - 20)) s.heap.size Z s := by
    refine ⟨⟨fun c q hq => had c q hq, fun k q hq => ?_⟩, fun w hw hn => ?_, fun i hi => ?_, fun t => ?_, ?_, fun i hi => ?_, ?_, ?_, hT⟩
    · have hk : k < 7 := by
        have := (List.getElem?_eq_some_iff.mp hq).1
        simpa [atys] using this
      rw [atys_at k hk] at hq
      cases hq
      have := har k hk
      rwa [show 20 + k - 20 = k by omega]
    · have ht : w.onTables = true := by cases w <;> first | rfl | (cases hn)
      exact va_Nw.of ht (hts w hw)
    · rcases (show i = 0 ∨ i = 1 ∨ i = 2 by omega) with rfl | rfl | rfl
      · rw [hZ0]; exact va_Zref (hts _ l1) (hts _ i1) hz0 hA
      · rw [hZ1]; exact va_Zref (hts _ l2) (hts _ i1) hz1 hA
      · rw [hZ2]; exact va_Zref (hts _ l3) (hts _ i2) hz2 hA
    · have h0 := va_AO.of (hts _ (st_ao 0 (by decide)))
      have h1 := va_AO.of (hts _ (st_ao 1 (by decide)))
      have h2 := va_AO.of (hts _ (st_ao 2 (by decide)))
      by_cases q4 : t = 4
      · subst q4; exact h0
      · by_cases q5 : t = 5
        · subst q5; exact h1
        · have q6 : aoN t = aoN 6 := by
            unfold aoN
            split
            · exact absurd rfl q4
            · exact absurd rfl q5
            · rfl
          rw [q6]; exact h2
    · refine ⟨fun i hi => ?_, fun i j hi hj h => ?_⟩
      · have h := hvk.1 i hi
        simp only [hZk i hi, hZv i]
        exact h
      · simp only [hZk i hi, hZk j hj] at h
        exact hvk.2 i j hi hj h
    · rw [hZk i hi]
      exact vk_R.of (hts _ (st_nl i hi)) (hev i hi)
    · exact va_Zof (hts _ l4) (hts _ i3) (va_eqt (hs _ e7)) hA
    · exact va_Zqof (hts _ l5) (hts _ i4) (hs _ e8) hA
  have lt : ∀ i, i < 3 → Z i < s.heap.size := fun i hi => by
    obtain ⟨cell, h1, -⟩ := hT i hi
    exact (Array.getElem?_eq_some_iff.mp h1).1
  have hZOK : ZOK Z s.heap.size := by
    refine ⟨lt, ⟨fun h => ?_, fun h => ?_, fun h => ?_⟩, fun i hi => ?_, fun i j hi hj h => ?_⟩
    · have h1 := hT 1 (by decide)
      rw [← h] at h1
      exact absurd (st_zz (by decide) (by decide) (hT 0 (by decide)) h1) (by decide)
    · have h1 := hT 2 (by decide)
      rw [← h] at h1
      exact absurd (st_zz (by decide) (by decide) (hT 0 (by decide)) h1) (by decide)
    · have h1 := hT 2 (by decide)
      rw [← h] at h1
      exact absurd (st_zz (by decide) (by decide) (hT 1 (by decide)) h1) (by decide)
    · rw [hZk i hi]
      obtain ⟨cell, h1, -⟩ := (hvk.1 i hi).1
      exact (Array.getElem?_eq_some_iff.mp h1).1
    · rw [hZk i hi, hZk j hj] at h
      exact hvk.2 i j hi hj h
  obtain ⟨res, hres, hr1⟩ := law_pure (xs := xs) hL hZOK
  have C : Cx (fun c => (ad c).1, fun c => (ad c).2) (fun x => ar (x - 20)) s.heap.size Z p s m #[Value.ref b] meth c code RL 4 ret := ⟨hx, hb, hml, hr, hown, htb, hlocks, hKK, Nat.le_refl _⟩
  have hhv : hv (fun c => (ad c).1, fun c => (ad c).2) (fun x => ar (x - 20)) s.heap.size Z (K0 Z) (I0 Z) (fun _ _ => 0) (fun _ _ => none) s.heap := by
    refine ⟨fun a e0 he => ?_, fun a ha => ?_⟩
    · have hc : h_cell (fun x => ar (x - 20)) (K0 Z) (I0 Z) (fun _ _ => 0) (fun _ _ => none) a = none := by
        unfold h_cell K0
        by_cases q0 : a = Z 0
        · rw [if_pos q0]; rfl
        · rw [if_neg q0]
          by_cases q1 : a = Z 1
          · rw [if_pos q1]; rfl
          · rw [if_neg q1]
            by_cases q2 : a = Z 2
            · rw [if_pos q2]; rfl
            · rw [if_neg q2]; rfl
      rw [hc] at he
      cases he
    · unfold K0 at ha
      by_cases q0 : a = Z 0
      · exact ⟨0, by decide, q0, by unfold K0; rw [if_pos q0], fun j _ => by unfold I0; rw [if_pos q0]⟩
      · rw [if_neg q0] at ha
        by_cases q1 : a = Z 1
        · exact ⟨1, by decide, q1, by unfold K0; rw [if_neg q0, if_pos q1], fun j _ => by unfold I0; rw [if_neg q0, if_pos q1]⟩
        · rw [if_neg q1] at ha
          by_cases q2 : a = Z 2
          · exact ⟨2, by decide, q2, by unfold K0; rw [if_neg q0, if_neg q1, if_pos q2], fun j _ => by unfold I0; rw [if_neg q0, if_neg q1, if_pos q2]⟩
          · rw [if_neg q2] at ha
            exact absurd ha (by decide)
  have hl := lv_entry ([.ref b]) (n := 4) (Nat.le_of_ble_eq_true rfl)
  rw [lg_entry_eq]
  exact w_L_law_0 C hX hbl res hr1 (K0 Z) s.heap.size (I0 Z) (fun _ _ => 0) (fun _ _ => none) hres s.heap [] _ hhv rfl va_S.rf hl

