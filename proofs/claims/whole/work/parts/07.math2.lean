theorem ms_fillstep {f : Nat → Int32} {v : Int32} {j : Nat} (hf : ∀ t, t < j → f t = v) : ∀ t, t < j + 1 → upd f j v t = v := by
  intro t ht
  by_cases e : t = j
  · subst e
    exact pk_us
  · rw [pk_un e]
    exact hf t (by omega)
theorem ms_accskip {Z1 Z G : Nat → Int32} {J : Nat → Nat} {t : Nat} (h0 : G t = 0) (hZ : ∀ j, Z1 j = Z j + ms_sm (fun t => if J t = j then G t else 0) t) : ∀ j, Z1 j = Z j + ms_sm (fun t => if J t = j then G t else 0) (t + 1) := by
  intro j
  rw [ms_sm, h0, hZ j]
  have e : (if J t = j then (0 : Int32) else 0) = 0 := by split <;> rfl
  rw [e, Int32.add_zero]
theorem ms_accif {Z1 Z G : Nat → Int32} {J : Nat → Nat} {t : Nat} {x : Int32} (h0 : G t = x) (hZ : ∀ j, Z1 j = Z j + ms_sm (fun t => if J t = j then G t else 0) t) : ∀ j, upd Z1 (J t) (Z1 (J t) + x) j = Z j + ms_sm (fun t => if J t = j then G t else 0) (t + 1) := by
  subst h0
  exact ms_acc hZ
