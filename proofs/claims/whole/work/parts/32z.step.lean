/-! one step after the other, without a look at what comes behind -/
theorem Ok.st {β γ : Type} {e : Option γ} {v : γ} {F : γ → Option β} {P : β → Prop} (h : e = some v) (kk : Ok (F v) P) : Ok (Option.bind e F) P := by
  rw [h]
  exact kk
theorem Ok.itT {β : Type} {c : Prop} {i : Decidable c} {a b : Option β} {P : β → Prop} (h : c) (kk : Ok a P) : Ok (@ite (Option β) c i a b) P := by
  rw [if_pos h]
  exact kk
theorem Ok.itF {β : Type} {c : Prop} {i : Decidable c} {a b : Option β} {P : β → Prop} (h : ¬ c) (kk : Ok b P) : Ok (@ite (Option β) c i a b) P := by
  rw [if_neg h]
  exact kk
theorem Est {β γ : Type} {e : Option γ} {v : γ} {F : γ → Option β} {r : Option β} (h : e = some v) (kk : F v = r) : Option.bind e F = r := by
  rw [h]
  exact kk
theorem EitT {β : Type} {c : Prop} {i : Decidable c} {a b r : Option β} (h : c) (kk : a = r) : @ite (Option β) c i a b = r := by
  rw [if_pos h]
  exact kk
theorem EitF {β : Type} {c : Prop} {i : Decidable c} {a b r : Option β} (h : ¬ c) (kk : b = r) : @ite (Option β) c i a b = r := by
  rw [if_neg h]
  exact kk
