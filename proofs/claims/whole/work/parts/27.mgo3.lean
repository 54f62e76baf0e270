/-- what one beast drinks -/
def thN (w c : Nat → Nat) (cs : Nat → List Nat) (N b : Nat) (k h : Nat) : Nat := b * drV w c (fun n => cdN (cs n) h b k) N
section
variable {o : Nat} {K : Sh} {R : Rf}
theorem laidM_of {i N b : Nat} {w c d : Nat → Nat} {cs : Nat → List Nat} {I : Im} (hb : b ≤ 9) (hW : MW o i N w c d I) (hL : LayI o w c d N I) (hT : ∀ p, p ≤ wlN w N → ∀ q, q < 24 → I (o + 27) (24 * p + q) = nI (b * drV w c (fun n => cdN (cs n) q b p) N)) (h45 : I o 45 = nI (b * laV w c 5 0 N)) (h46 : I o 46 = nI (b * laV w c 3 10 N)) :
    LaidM o I (wlN w N) (wlV w c N) (wlV w d N) (wyV w c N) (thN w c cs N b) (b * laV w c 5 0 N) (b * laV w c 3 10 N) := by
  have hN := hW.2.2.1
  have h5 := wlN_le w N
  have s1 : laV w c 5 0 N ≤ 99 := laV_le (fun n hn _ => (hW.2.2.2 n hn).2.2.2.1) (by omega)
  have s2 : laV w c 3 10 N ≤ 99 := laV_le (fun n hn _ => (hW.2.2.2 n hn).2.2.2.1) (by omega)
  have p1 : b * laV w c 5 0 N ≤ 9 * 99 := Nat.mul_le_mul hb s1
  have p2 : b * laV w c 3 10 N ≤ 9 * 99 := Nat.mul_le_mul hb s2
  refine ⟨hL.1, h5, fun q hq => ⟨(hL.2.1 q hq).1, wlV_le (fun n hn _ => (hW.2.2.2 n hn).2.2.2.1) q, (hL.2.1 q hq).2, wlV_le (fun n hn hw => ((hW.2.2.2 n hn).2.2.2.2.2 hw).2) q⟩, fun q hq => ⟨hL.2.2 q (by omega), (wyV_b (fun n hn hw => (hW.2.2.2 n hn).2.2.2.2.1 hw) q).2, fun j hj => ⟨hT q hq j hj, ?_⟩⟩, h45, by omega, h46, by omega⟩
  have a : drV w c (fun n => cdN (cs n) j b q) N ≤ 99 * N := drV_le (fun n hn => (hW.2.2.2 n hn).2.2.2.1)
  have a2 : b * drV w c (fun n => cdN (cs n) j b q) N ≤ 9 * 1188 := Nat.mul_le_mul hb (by omega)
  show b * drV w c (fun n => cdN (cs n) j b q) N ≤ 100000
  omega
end
