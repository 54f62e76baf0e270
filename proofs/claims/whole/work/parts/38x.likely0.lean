def lI (a : Nat) : Int64 := Int64.ofInt (a : Int)
theorem lI_toInt {a : Nat} (h : a < 2 ^ 62) : (lI a).toInt = a := Int64.toInt_ofInt_of_le (by omega) (by omega)
theorem lI_add (a b : Nat) : lI a + lI b = lI (a + b) := by
  unfold lI
  rw [← Int64.ofInt_add]
  rfl
theorem lI_mul (a b : Nat) : lI a * lI b = lI (a * b) := by
  unfold lI
  rw [← Int64.ofInt_mul]
  rfl
theorem lI_sub {a b : Nat} (h : b ≤ a) : lI a - lI b = lI (a - b) := by
  unfold lI
  rw [← Int64.ofInt_sub]
  congr 1
  omega
theorem lI_eq {a b : Nat} (ha : a < 2 ^ 62) (hb : b < 2 ^ 62) : lI a = lI b ↔ a = b := by
  rw [← Int64.toInt_inj, lI_toInt ha, lI_toInt hb]
  omega
theorem lI_div {a b : Nat} (ha : a < 2 ^ 62) (hb2 : b < 2 ^ 62) : lI a / lI b = lI (a / b) := by
  apply Int64.toInt_inj.1
  rw [Int64.toInt_div, lI_toInt ha, lI_toInt hb2, lI_toInt (by have := Nat.div_le_self a b; omega), Int.tdiv_eq_ediv_of_nonneg (by omega)]
  rw [Int.bmod_eq_of_le (by have : (0 : Int) ≤ (a : Int) / b := Int.ediv_nonneg (by omega) (by omega); omega) (by have : (a : Int) / b ≤ a := Int.ediv_le_self _ (by omega); omega)]
  exact (Int.natCast_ediv a b).symm
theorem lrem_lI {a b : Nat} (ha : a < 2 ^ 62) (hb2 : b < 2 ^ 62) : lrem (lI a) (lI b) = lI (a % b) := by
  unfold lrem
  rw [lI_div ha hb2, lI_mul, lI_sub (by have := Nat.div_mul_le_self a b; omega)]
  congr 1
  have := Nat.div_add_mod a b
  rw [Nat.mul_comm] at this
  omega
theorem nI_64 {a : Nat} (h : a < 2 ^ 31) : (nI a).toInt64 = lI a := by
  apply Int64.toInt_inj.1
  rw [Int32.toInt_toInt64, nI_toInt h, lI_toInt (by omega)]
/-- the greatest common divisor, both ways -/
theorem half_mod {b r : Nat} (h0 : 0 < r) (hr : r < b) : 2 * (b % r) < b := by
  have h1 := Nat.mod_lt b h0
  by_cases c : 2 * r ≤ b
  · omega
  · have : b % r = b - r := by
      rw [Nat.mod_eq_sub_mod (by omega), Nat.mod_eq_of_lt (by omega)]
    omega
theorem c_gcd : ∀ (k a b e f : Nat), b < 2 ^ k → a < 2 ^ 30 → b < 2 ^ 30 → e + 2 * k + 1 ≤ 100 → 2 * k + 1 < f → f_X11_commonDivisor_7 f (nI a) (nI b) (nI e) = some (nI (Nat.gcd b a)) := by
  intro k
  induction k with
  | zero =>
    intro a b e f hb ha hb2 he hf
    obtain ⟨f, rfl⟩ : ∃ f', f = f' + 1 := ⟨f - 1, by omega⟩
    have : b = 0 := by omega
    subst this
    unfold f_X11_commonDivisor_7
    rw [if_neg (by rw [show (100 : Int32) = nI 100 from rfl, nI_leI (by omega) (by omega)]; omega), if_pos (show nI 0 = 0 from rfl), Nat.gcd_zero_left]
  | succ k ih =>
    intro a b e f hb ha hb2 he hf
    obtain ⟨f, rfl⟩ : ∃ f', f = f' + 1 + 1 := ⟨f - 2, by omega⟩
    have n100 : ∀ m, m < 100 → ¬ ((100 : Int32) ≤ nI m) := fun m hm => by rw [show (100 : Int32) = nI 100 from rfl, nI_leI (by omega) (by omega)]; omega
    unfold f_X11_commonDivisor_7
    rw [if_neg (n100 e (by omega))]
    by_cases c : b = 0
    · subst c
      rw [if_pos (show nI 0 = 0 from rfl), Nat.gcd_zero_left]
    · have nb : ¬ (nI b = 0) := by rw [L0, nI_eq (by omega) (by omega)]; exact c
      have h1 := Nat.mod_lt a (Nat.pos_of_ne_zero c)
      rw [if_neg nb, if_neg nb, irem_nI (by omega) (by omega) (by omega), obs, L1, nI_add]
      unfold f_X11_commonDivisor_7
      rw [if_neg (n100 (e + 1) (by omega))]
      have g1 : Nat.gcd b a = Nat.gcd (a % b) b := Nat.gcd_rec b a
      by_cases c2 : a % b = 0
      · rw [if_pos (by rw [c2]; rfl), g1, c2, Nat.gcd_zero_left]
      · have nr : ¬ (nI (a % b) = 0) := by rw [L0, nI_eq (by omega) (by omega)]; exact c2
        have h2 := half_mod (Nat.pos_of_ne_zero c2) h1
        rw [if_neg nr, if_neg nr, irem_nI (by omega) (by omega) (by omega), obs, L1, nI_add, g1, Nat.gcd_rec]
        exact ih (a % b) (b % (a % b)) (e + 1 + 1) f (by omega) (by omega) (by omega) (by omega) (by omega)
theorem m_gcd {o : Nat} : ∀ (k a b f : Nat), b < 2 ^ k → a < 2 ^ 30 → b < 2 ^ 30 → 2 * k + 1 < f → f_X12_divisor_6 o f (lI a) (lI b) = some (lI (Nat.gcd b a)) := by
  intro k
  have z0 : (0 : Int64) = lI 0 := rfl
  induction k with
  | zero =>
    intro a b f hb ha hb2 hf
    obtain ⟨f, rfl⟩ : ∃ f', f = f' + 1 := ⟨f - 1, by omega⟩
    have : b = 0 := by omega
    subst this
    unfold f_X12_divisor_6
    rw [if_pos (show lg_cmp (lI 0) 0 = 0 from (lg_cmp_eq _ _).mpr rfl), Nat.gcd_zero_left]
  | succ k ih =>
    intro a b f hb ha hb2 hf
    obtain ⟨f, rfl⟩ : ∃ f', f = f' + 1 + 1 := ⟨f - 2, by omega⟩
    unfold f_X12_divisor_6
    by_cases c : b = 0
    · subst c
      rw [if_pos (show lg_cmp (lI 0) 0 = 0 from (lg_cmp_eq _ _).mpr rfl), Nat.gcd_zero_left]
    · have nb : ¬ (lI b = 0) := by rw [z0, lI_eq (by omega) (by omega)]; exact c
      have h1 := Nat.mod_lt a (Nat.pos_of_ne_zero c)
      rw [if_neg (fun h => nb ((lg_cmp_eq _ _).mp h)), if_neg nb, lrem_lI (by omega) (by omega), obs]
      unfold f_X12_divisor_6
      have g1 : Nat.gcd b a = Nat.gcd (a % b) b := Nat.gcd_rec b a
      by_cases c2 : a % b = 0
      · rw [if_pos ((lg_cmp_eq _ _).mpr (by rw [c2]; rfl)), g1, c2, Nat.gcd_zero_left]
      · have nr : ¬ (lI (a % b) = 0) := by rw [z0, lI_eq (by omega) (by omega)]; exact c2
        have h2 := half_mod (Nat.pos_of_ne_zero c2) h1
        rw [if_neg (fun h => nr ((lg_cmp_eq _ _).mp h)), if_neg nr, lrem_lI (by omega) (by omega), obs, g1, Nat.gcd_rec]
        exact ih (a % b) (b % (a % b)) f (by omega) (by omega) (by omega) (by omega)
/-- which wells are dry: a bit each -/
def bitN (d k : Nat) : Nat := d / 2 ^ k % 2
theorem bit_and {d k : Nat} (hd : d < 32) (hk : k < 5) : (ishr (nI d) (nI k)) &&& 1 = nI (bitN d k) := by
  have h : ∀ d : Fin 32, ∀ k : Fin 5, (ishr (nI d.val) (nI k.val)) &&& 1 = nI (bitN d.val k.val) := by decide
  exact h ⟨d, hd⟩ ⟨k, hk⟩
theorem bit_lt (d k : Nat) : bitN d k < 2 := Nat.mod_lt _ (by decide)
theorem ishl_nI {W : Nat} (h : W ≤ 5) : ishl 1 (nI W) = nI (2 ^ W) := by
  rcases (by omega : W = 0 ∨ W = 1 ∨ W = 2 ∨ W = 3 ∨ W = 4 ∨ W = 5) with rfl | rfl | rfl | rfl | rfl | rfl <;> decide
def wgN (od : Nat → Nat) (d : Nat) : Nat → Nat
  | 0 => 1
  | m + 1 => wgN od d m * (if bitN d m = 1 then od m else 10 - od m)
theorem wgN_b {od : Nat → Nat} {d : Nat} (h : ∀ k, k < 5 → od k ≤ 10) : ∀ m, m ≤ 5 → wgN od d m ≤ 10 ^ m := by
  intro m
  induction m with
  | zero => intro _; simp [wgN]
  | succ m ih =>
    intro hm
    have h1 := ih (by omega)
    have h2 := h m (by omega)
    simp only [wgN]
    rw [Nat.pow_succ]
    exact Nat.mul_le_mul h1 (by split <;> omega)
def dryF (d : Nat) (fu : Nat → Nat) (k : Nat) : Nat := if bitN d k = 1 then 0 else fu k
/-- in how many cases one comes over, the first d of them looked at -/
def lkN (ov : Nat → Option Nat) (wt : Nat → Nat) : Nat → Nat
  | 0 => 0
  | d + 1 => lkN ov wt d + (if wt d = 0 then 0 else match ov d with
    | none => 0
    | some _ => wt d)
theorem lkN_b {ov : Nat → Option Nat} {wt : Nat → Nat} (h : ∀ d, wt d ≤ 100000) : ∀ d, lkN ov wt d ≤ 100000 * d := by
  intro d
  induction d with
  | zero => simp [lkN]
  | succ d ih =>
    have := h d
    simp only [lkN]
    split
    · omega
    · split <;> omega
