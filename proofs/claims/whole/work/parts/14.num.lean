/-! NUMBERS: an int of the machine as the residue of a whole number -/
def jI (z : Int) : Int32 := Int32.ofInt z
theorem nI_jI (n : Nat) : nI n = jI (n : Int) := rfl
theorem jlit (n : Nat) : (OfNat.ofNat n : Int32) = jI (OfNat.ofNat n) := rfl
theorem jadd (a b : Int) : jI a + jI b = jI (a + b) := (Int32.ofInt_add a b).symm
theorem jmul (a b : Int) : jI a * jI b = jI (a * b) := (Int32.ofInt_mul a b).symm
theorem jneg (a : Int) : -jI a = jI (-a) := (Int32.ofInt_neg a).symm
theorem jsub (a b : Int) : jI a - jI b = jI (a - b) := (Int32.ofInt_sub a b).symm
theorem jint {a : Int} (h1 : -2147483648 ≤ a) (h2 : a < 2147483648) : (jI a).toInt = a := Int32.toInt_ofInt_of_le h1 h2
theorem jlt {a b : Int} (h1 : -2147483648 ≤ a ∧ a < 2147483648) (h2 : -2147483648 ≤ b ∧ b < 2147483648) : jI a < jI b ↔ a < b := by
  rw [Int32.lt_iff_toInt_lt, jint h1.1 h1.2, jint h2.1 h2.2]
theorem jle {a b : Int} (h1 : -2147483648 ≤ a ∧ a < 2147483648) (h2 : -2147483648 ≤ b ∧ b < 2147483648) : jI a ≤ jI b ↔ a ≤ b := by
  rw [Int32.le_iff_toInt_le, jint h1.1 h1.2, jint h2.1 h2.2]
theorem jeq {a b : Int} (h1 : -2147483648 ≤ a ∧ a < 2147483648) (h2 : -2147483648 ≤ b ∧ b < 2147483648) : jI a = jI b ↔ a = b := by
  rw [← Int32.toInt_inj, jint h1.1 h1.2, jint h2.1 h2.2]
theorem j_of (a : Int32) : a = jI a.toInt := (Int32.ofInt_toInt a).symm
theorem j_nat {a : Int32} (h : 0 ≤ a.toInt) : a = nI a.toInt.toNat := by
  rw [nI_jI, Int.toNat_of_nonneg h]; exact j_of a
