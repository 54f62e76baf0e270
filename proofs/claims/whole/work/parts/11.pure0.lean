/-! WHAT IS LEFT OF THE CLAIM: about functions alone -/
def ZOK (Z : Nat → Nat) (n : Nat) : Prop := (∀ i, i < 3 → Z i < n) ∧ (Z 0 ≠ Z 1 ∧ Z 0 ≠ Z 2 ∧ Z 1 ≠ Z 2) ∧ (∀ i, i < 6 → Z (10 + i) < n) ∧ ∀ i j, i < 6 → j < 6 → Z (10 + i) = Z (10 + j) → i = j
def K0 (Z : Nat → Nat) : Sh := fun a => if a = Z 0 then (27, zL 0) else if a = Z 1 then (27, zL 1) else if a = Z 2 then (27, zL 2) else (0, 0)
def I0 (Z : Nat → Nat) : Im := fun a j => if a = Z 0 then zD 0 j else if a = Z 1 then zD 1 j else if a = Z 2 then zD 2 j else 0
