/-! count, trace, ever -/
section
variable {Z : Nat → Nat} {x n M nr nc NW i q N W cy sd : Nat} {K : Sh} {I I1 : Im} {J : Jm} {R R1 : Rf} {w c d le la hr : Nat → Nat} {cs : Nat → List Nat} {d1 : Nat → Nat → Nat → Nat}
theorem k_count (h : Rel Z x n M K I J R) (v1 : Int32) : ∃ r, f_X11_count K I R x v1 = some r ∧ f_X12_count K I (x + 62) v1 = some r := by
  obtain ⟨hC, hS, hn, hMb, hZ, nr, nc, NW, hG⟩ := h
  obtain ⟨⟨h1, h2, h3, h4, h5, h6, h7, h8, h9⟩, -, -, ⟨-, -, ⟨ns, s1, s2, s3, -⟩, ⟨nh, u1, u2', u3, -⟩⟩, -, -, ⟨ran, r1, r2, r3, -⟩, -, ⟨len, l1, l2, l3, -⟩, -⟩ := hG
  have S11 := cS11 hC
  have o7 : ob K 7 (R x 7) = some (x + 8) := o11_7 S11
  have o0 : ob K 5 (R x 0) = some (x + 1) := o11_0 S11
  have oa : ob K 1 (R x 11) = some (x + 27) := o11_11 S11
  unfold f_X11_count f_X12_count
  rw [o7, o0, oa]
  by_cases q0 : v1 = 0
  · exact ⟨_, if_pos q0, by rw [if_pos q0, h4, h5]⟩
  rw [if_neg q0, if_neg q0]
  by_cases q1 : v1 = 1
  · exact ⟨_, if_pos q1, by rw [if_pos q1, h6, h7]⟩
  rw [if_neg q1, if_neg q1]
  by_cases q2 : v1 = 2
  · exact ⟨_, if_pos q2, by rw [if_pos q2, h8, h9]⟩
  rw [if_neg q2, if_neg q2]
  by_cases q3 : v1 = 3
  · exact ⟨_, by rw [if_pos q3, obs], by rw [if_pos q3, s2, s3]⟩
  rw [if_neg q3, if_neg q3]
  by_cases q4 : v1 = 4
  · exact ⟨_, by rw [if_pos q4, obs], by rw [if_pos q4, u2', u3]⟩
  rw [if_neg q4, if_neg q4]
  by_cases q5 : v1 = 5
  · exact ⟨_, by rw [if_pos q5, obs], by rw [if_pos q5, l2, l3]⟩
  rw [if_neg q5, if_neg q5]
  by_cases q6 : v1 = 6
  · exact ⟨_, by rw [if_pos q6, obs], by rw [if_pos q6, r2, r3]⟩
  rw [if_neg q6, if_neg q6]
  exact ⟨_, rfl, rfl⟩
theorem k_trace (h : Rel Z x n M K I J R) (v1 : Int32) : ∃ r, f_X11_trace K I R x v1 = some r ∧ f_X12_trace K I R (x + 62) v1 = some r := by
  obtain ⟨hC, hS, hn, hMb, hZ, nr, nc, NW, hG⟩ := h
  obtain ⟨-, -, -, -, -, -, ⟨ran, r1, r2, r3, r4⟩, -⟩ := hG
  have S11 := cS11 hC
  have S12' : S12 (x + 62) K R := hS
  have oa : ob K 1 (R x 11) = some (x + 27) := o11_11 S11
  unfold f_X11_trace f_X12_trace
  rw [oa]
  have e1' : ¬ (nI 1 = 0) := by decide
  have e0' : nI 0 = 0 := rfl
  rcases at_lt v1 20 (by omega) with ⟨m, p1, p2, p3, p4, p5⟩ | ⟨p1, p2⟩
  · have p5 : ∀ o, f_X12_in o v1 0 19 = some (nI 1) := p5
    rw [p5, obs, obs, if_neg e1', if_neg (show ¬ v1 < 0 from p3), r2, r3, p1]
    by_cases cm : ran ≤ m
    · exact ⟨_, by rw [if_pos (by rw [nI_leI (by omega) (by omega)]; exact cm)], by rw [if_pos (by rw [nI_leI (by omega) (by omega)]; exact cm)]⟩
    · rw [if_neg (by rw [nI_leI (by omega) (by omega)]; exact cm), if_neg (show ¬ ((20 : Int32) ≤ nI m) by rw [L20, nI_leI (by omega) (by omega)]; omega), l0_0 (cS0 hC) p2, l12_68 S12' p2, obs, obs]
      exact ⟨_, congrArg some (r4 m (by omega) p2), by rw [if_neg (by rw [nI_leI (by omega) (by omega)]; exact cm)]⟩
  · have p2 : ∀ o, f_X12_in o v1 0 19 = some (nI 0) := p2
    rw [p2, obs, obs, if_pos e0']
    refine ⟨-1, ?_, rfl⟩
    rcases p1 with p1 | ⟨p1, p3⟩
    · rw [if_pos (show v1 < 0 from p1)]
    · rw [if_neg (show ¬ v1 < 0 from p1)]
      by_cases cm : I (x + 27) 1 ≤ v1
      · rw [if_pos cm]
      · rw [if_neg cm, if_pos (show (20 : Int32) ≤ v1 from p3)]
end
