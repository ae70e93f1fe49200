theorem ms_updstep {f F : Nat → Int32} {j : Nat} (hf : ∀ t, t < j → f t = F t) : ∀ t, t < j + 1 → upd f j (F j) t = F t := by
  intro t ht
  by_cases e : t = j
  · subst e
    exact pk_us
  · rw [pk_un e]
    exact hf t (by omega)
theorem st_pcol {R C S np p : Nat} {pR pC : Nat → Int32} (hC : C ≤ S ∧ S ≤ 60) (h : ∀ p, p < np → ∃ i j, i < R ∧ j < C ∧ pR p = nI i ∧ pC p = nI j) (hp : p < np) : pC p = nI (pC p).toNatClampNeg ∧ (pC p).toNatClampNeg < S := by
  obtain ⟨a, b, h1, h2, h3, h4⟩ := h p hp
  rw [h4, nI_clamp (by omega)]
  exact ⟨rfl, by omega⟩
