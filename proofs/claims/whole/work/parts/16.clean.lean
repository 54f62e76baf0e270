/-! literals; frames (no row by rfl alone: the kernel must not unfold a loop on FU) -/
theorem obs {α β : Type} (a : α) (f : α → Option β) : Option.bind (some a) f = f a := Eq.trans rfl rfl
theorem L0 : (0 : Int32) = nI 0 := Eq.trans rfl rfl
theorem L1 : (1 : Int32) = nI 1 := Eq.trans rfl rfl
theorem L2 : (2 : Int32) = nI 2 := Eq.trans rfl rfl
theorem L3 : (3 : Int32) = nI 3 := Eq.trans rfl rfl
theorem L4 : (4 : Int32) = nI 4 := Eq.trans rfl rfl
theorem L5 : (5 : Int32) = nI 5 := Eq.trans rfl rfl
theorem L6 : (6 : Int32) = nI 6 := Eq.trans rfl rfl
theorem L7 : (7 : Int32) = nI 7 := Eq.trans rfl rfl
theorem L8 : (8 : Int32) = nI 8 := Eq.trans rfl rfl
theorem L9 : (9 : Int32) = nI 9 := Eq.trans rfl rfl
theorem L10 : (10 : Int32) = nI 10 := Eq.trans rfl rfl
theorem L11 : (11 : Int32) = nI 11 := Eq.trans rfl rfl
theorem L12 : (12 : Int32) = nI 12 := Eq.trans rfl rfl
theorem L13 : (13 : Int32) = nI 13 := Eq.trans rfl rfl
theorem L14 : (14 : Int32) = nI 14 := Eq.trans rfl rfl
theorem L15 : (15 : Int32) = nI 15 := Eq.trans rfl rfl
theorem L16 : (16 : Int32) = nI 16 := Eq.trans rfl rfl
theorem L17 : (17 : Int32) = nI 17 := Eq.trans rfl rfl
theorem L18 : (18 : Int32) = nI 18 := Eq.trans rfl rfl
theorem L19 : (19 : Int32) = nI 19 := Eq.trans rfl rfl
theorem L20 : (20 : Int32) = nI 20 := Eq.trans rfl rfl
theorem L21 : (21 : Int32) = nI 21 := Eq.trans rfl rfl
theorem L22 : (22 : Int32) = nI 22 := Eq.trans rfl rfl
theorem L23 : (23 : Int32) = nI 23 := Eq.trans rfl rfl
theorem L24 : (24 : Int32) = nI 24 := Eq.trans rfl rfl
theorem L25 : (25 : Int32) = nI 25 := Eq.trans rfl rfl
theorem L26 : (26 : Int32) = nI 26 := Eq.trans rfl rfl
theorem L27 : (27 : Int32) = nI 27 := Eq.trans rfl rfl
theorem L28 : (28 : Int32) = nI 28 := Eq.trans rfl rfl
theorem L29 : (29 : Int32) = nI 29 := Eq.trans rfl rfl
theorem L30 : (30 : Int32) = nI 30 := Eq.trans rfl rfl
theorem L31 : (31 : Int32) = nI 31 := Eq.trans rfl rfl
theorem L32 : (32 : Int32) = nI 32 := Eq.trans rfl rfl
theorem L33 : (33 : Int32) = nI 33 := Eq.trans rfl rfl
theorem L34 : (34 : Int32) = nI 34 := Eq.trans rfl rfl
theorem L35 : (35 : Int32) = nI 35 := Eq.trans rfl rfl
theorem L36 : (36 : Int32) = nI 36 := Eq.trans rfl rfl
theorem L37 : (37 : Int32) = nI 37 := Eq.trans rfl rfl
theorem L38 : (38 : Int32) = nI 38 := Eq.trans rfl rfl
theorem L39 : (39 : Int32) = nI 39 := Eq.trans rfl rfl
theorem L40 : (40 : Int32) = nI 40 := Eq.trans rfl rfl
theorem L48 : (48 : Int32) = nI 48 := Eq.trans rfl rfl
theorem L57 : (57 : Int32) = nI 57 := Eq.trans rfl rfl
theorem L59 : (59 : Int32) = nI 59 := Eq.trans rfl rfl
theorem L60 : (60 : Int32) = nI 60 := Eq.trans rfl rfl
theorem L62 : (62 : Int32) = nI 62 := Eq.trans rfl rfl
theorem L96 : (96 : Int32) = nI 96 := Eq.trans rfl rfl
theorem L97 : (97 : Int32) = nI 97 := Eq.trans rfl rfl
theorem L98 : (98 : Int32) = nI 98 := Eq.trans rfl rfl
theorem L99 : (99 : Int32) = nI 99 := Eq.trans rfl rfl
theorem L100 : (100 : Int32) = nI 100 := Eq.trans rfl rfl
theorem L104 : (104 : Int32) = nI 104 := Eq.trans rfl rfl
theorem L110 : (110 : Int32) = nI 110 := Eq.trans rfl rfl
theorem L119 : (119 : Int32) = nI 119 := Eq.trans rfl rfl
theorem L124 : (124 : Int32) = nI 124 := Eq.trans rfl rfl
theorem L500 : (500 : Int32) = nI 500 := Eq.trans rfl rfl
theorem L999 : (999 : Int32) = nI 999 := Eq.trans rfl rfl
theorem L2000 : (2000 : Int32) = nI 2000 := Eq.trans rfl rfl
theorem L3000 : (3000 : Int32) = nI 3000 := Eq.trans rfl rfl
theorem L1000 : (1000 : Int32) = nI 1000 := Eq.trans rfl rfl
def FM (o : Nat) (S F : List Nat) (I I' : Im) : Prop := ∀ a k, (∀ i ∈ S, a ≠ o + i) → (a = o → k ∉ F) → I' a k = I a k
section
variable {o : Nat} {S F S' F' : List Nat} {I I' I'' : Im}
theorem FM.refl : FM o S F I I := fun _ _ _ _ => rfl
theorem FM.trans (h : FM o S F I I') (h2 : FM o S F I' I'') : FM o S F I I'' := fun a k hs hf => (h2 a k hs hf).trans (h a k hs hf)
theorem FM.mono (h : FM o S F I I') (hS : ∀ i ∈ S, i ∈ S') (hF : ∀ i ∈ F, i ∈ F') : FM o S' F' I I' := fun a k hs hf => h a k (fun i hi => hs i (hS i hi)) (fun e hk => hf e (hF k hk))
theorem FM.arr (h : FM o S F I I') {i : Nat} (hi : i ∉ S) (h0 : 0 < i) : I' (o + i) = I (o + i) := by
  funext k
  refine h _ k (fun j hj e => ?_) (fun e => by omega)
  have : i = j := by omega
  exact hi (this ▸ hj)
theorem FM.fld (h : FM o S F I I') {k : Nat} (hk : k ∉ F) (h0 : 0 ∉ S) : I' o k = I o k := by
  refine h o k (fun j hj e => ?_) (fun _ => hk)
  have : j = 0 := by omega
  exact h0 (this ▸ hj)
theorem FM.out (h : FM o S F I I') {a : Nat} (ha : a < o ∨ o + 48 ≤ a) (hS : ∀ i ∈ S, i < 48) : I' a = I a := by
  funext k
  refine h a k (fun j hj e => ?_) (fun e => by omega)
  have := hS j hj
  omega
theorem FM.st (h : FM o S F I I') {i j : Nat} {v : Int32} (hi : i ∈ S) : FM o S F I (u2 I' (o + i) j v) := fun a k hs hf => by
  rw [u2_row (hs i hi)]
  exact h a k hs hf
theorem FM.pf (h : FM o S F I I') {j : Nat} {v : Int32} (hj : j ∈ F) : FM o S F I (u2 I' o j v) := fun a k hs hf => by
  by_cases q : a = o
  · subst q
    rw [u2_ne (fun (e : k = j) => hf rfl (by rw [e]; exact hj))]
    exact h a k hs hf
  · rw [u2_row q]
    exact h a k hs hf
end
/-! what a text tells, clause by clause: w its words (0 well, 1 way, 2 drink, 3 carry, 4 load, 5 stand), c its numbers, d a well's second -/
def wlN (w : Nat → Nat) : Nat → Nat
  | 0 => 0
  | n + 1 => if w n = 0 ∧ wlN w n < 5 then wlN w n + 1 else wlN w n
def wlV (w c : Nat → Nat) : Nat → Nat → Nat
  | 0, _ => 0
  | n + 1, k => if w n = 0 ∧ wlN w n < 5 ∧ k = wlN w n then c n else wlV w c n k
def wyN (w : Nat → Nat) : Nat → Nat
  | 0 => 0
  | n + 1 => if w n = 1 ∧ wyN w n < 6 then wyN w n + 1 else wyN w n
def wyV (w c : Nat → Nat) : Nat → Nat → Nat
  | 0, _ => 3
  | n + 1, k => if w n = 1 ∧ wyN w n < 6 ∧ k = wyN w n then max (c n) 1 else wyV w c n k
def laV (w c : Nat → Nat) (s d : Nat) : Nat → Nat
  | 0 => d
  | n + 1 => if w n = s then c n else laV w c s d n
theorem wlN_le (w : Nat → Nat) (n : Nat) : wlN w n ≤ 5 := by
  induction n with
  | zero => simp [wlN]
  | succ n ih => simp only [wlN]; split <;> omega
theorem wyN_le (w : Nat → Nat) (n : Nat) : wyN w n ≤ 6 := by
  induction n with
  | zero => simp [wyN]
  | succ n ih => simp only [wyN]; split <;> omega
theorem wlV_le {w c : Nat → Nat} {N B : Nat} (h : ∀ n, n < N → w n = 0 → c n ≤ B) (k : Nat) : wlV w c N k ≤ B := by
  induction N with
  | zero => simp [wlV]
  | succ n ih =>
    simp only [wlV]
    split
    · rename_i q; exact h n (by omega) q.1
    · exact ih (fun m hm hw => h m (by omega) hw)
theorem laV_le {w c : Nat → Nat} {N B s d : Nat} (h : ∀ n, n < N → w n = s → c n ≤ B) (hd : d ≤ B) : laV w c s d N ≤ B := by
  induction N with
  | zero => simpa [laV] using hd
  | succ n ih =>
    simp only [laV]
    split
    · rename_i q; exact h n (by omega) q
    · exact ih (fun m hm hw => h m (by omega) hw)
theorem wyV_b {w c : Nat → Nat} {N : Nat} (h : ∀ n, n < N → w n = 1 → c n ≤ 9) (k : Nat) : 1 ≤ wyV w c N k ∧ wyV w c N k ≤ 9 := by
  induction N with
  | zero => simp [wyV]
  | succ n ih =>
    simp only [wyV]
    split
    · rename_i q
      have := h n (by omega) q.1
      omega
    · exact ih (fun m hm hw => h m (by omega) hw)
/-! an outcome and what holds of it -/
def Ok {β : Type} (e : Option β) (P : β → Prop) : Prop := ∃ r, e = some r ∧ P r
theorem Ok.ret {β : Type} {a : β} {P : β → Prop} (h : P a) : Ok (some a) P := ⟨a, rfl, h⟩
theorem Ok.bind {β γ : Type} {e : Option γ} {Q : γ → Prop} {F : γ → Option β} {P : β → Prop} (h : Ok e Q) (kk : ∀ r, Q r → Ok (F r) P) : Ok (Option.bind e F) P := by
  obtain ⟨r, hr, hq⟩ := h
  rw [hr]
  exact kk r hq
theorem Ok.mono {β : Type} {e : Option β} {Q P : β → Prop} (h : Ok e Q) (kk : ∀ r, Q r → P r) : Ok e P := by
  obtain ⟨r, hr, hq⟩ := h
  exact ⟨r, hr, kk r hq⟩
theorem Ok.eq {β : Type} {e : Option β} {a : β} {P : β → Prop} (h : e = some a) (hp : P a) : Ok e P := ⟨a, h, hp⟩
theorem FU_lt {n : Nat} (h : n < 1000000000) : n < FU := by rw [FU_big]; exact h
theorem MSH.congr {o : Nat} {K K' : Sh} {R R' : Rf} (h : MSH o K R) (hK : ∀ i, i < 48 → K' (o + i) = K (o + i)) (hR : R' o = R o) : MSH o K' R' :=
  ⟨fun i hi => (hK i hi).trans (h.1 i hi), fun k hk hi => by rw [hR]; exact h.2 k hk hi⟩
