theorem law_pure {Z : Nat → Nat} {n L : Nat} {xs : Nat → Int32} (hL : L ≤ 3072) (hZ : ZOK Z n) : ∃ res, f_L_law Z L xs (K0 Z) n (I0 Z) (fun _ _ => 0) (fun _ _ => none) = some res ∧ res.1 = 1 := sorry
