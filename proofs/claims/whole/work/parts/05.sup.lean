/-! the support: starts, columns, values as a picture of a matrix -/
theorem ms_in2_t {x : Int32} {h : Nat} (hh : h + 1 < 2 ^ 31) (h1 : ¬ x < nI 0) (h2 : ¬ nI h < x) : ms_in x (h + 1) = true := by
  rw [ms_lt, ms_nz, ms_z] at h1
  rw [ms_lt, nI_toInt (by omega)] at h2
  exact decide_eq_true ⟨by omega, by omega⟩
theorem ms_in2_f1 {x : Int32} {h : Nat} (h1 : x < nI 0) : ms_in x (h + 1) = false := by
  rw [ms_nz] at h1
  exact ms_in_f1 h1
theorem ms_in2_f2 {x : Int32} {h : Nat} (hh : h + 1 < 2 ^ 31) (h2 : nI h < x) : ms_in x (h + 1) = false := by
  rw [ms_lt, nI_toInt (by omega)] at h2
  exact decide_eq_false (fun q => by omega)
theorem ms_acc {Z1 Z G : Nat → Int32} {J : Nat → Nat} {t : Nat} (hZ : ∀ j, Z1 j = Z j + ms_sm (fun t => if J t = j then G t else 0) t) : ∀ j, upd Z1 (J t) (Z1 (J t) + G t) j = Z j + ms_sm (fun t => if J t = j then G t else 0) (t + 1) := by
  intro j
  rw [ms_sm]
  by_cases h : J t = j
  · subst h
    rw [pk_us, hZ, if_pos rfl, Int32.add_assoc]
  · rw [pk_un (fun q => h q.symm), hZ, if_neg h, Int32.add_zero]
theorem ms_put_step {Z g1 w1 g w : Nat → Int32} {q0 j : Nat} (c : ¬ Z j = 0) (hg : ∀ t, t < j → ¬ Z t = 0 → g1 (q0 + ms_rc Z t) = nI t ∧ w1 (q0 + ms_rc Z t) = Z t) (ho : ∀ q, q < q0 → g1 q = g q ∧ w1 q = w q) :
    (∀ t, t < j + 1 → ¬ Z t = 0 → upd g1 (q0 + ms_rc Z j) (nI j) (q0 + ms_rc Z t) = nI t ∧ upd w1 (q0 + ms_rc Z j) (Z j) (q0 + ms_rc Z t) = Z t) ∧ (∀ q, q < q0 → upd g1 (q0 + ms_rc Z j) (nI j) q = g q ∧ upd w1 (q0 + ms_rc Z j) (Z j) q = w q) := by
  refine ⟨fun t ht hz => ?_, fun q hq => ?_⟩
  · by_cases e : t = j
    · subst e
      exact ⟨pk_us, pk_us⟩
    · have h1 := ms_rc_lt (p := Z) (show t < j by omega) hz
      rw [pk_un (by omega), pk_un (by omega)]
      exact hg t (by omega) hz
  · rw [pk_un (by omega), pk_un (by omega)]
    exact ho q hq
theorem ms_put_skip {Z g1 w1 : Nat → Int32} {q0 j : Nat} (c : Z j = 0) (hg : ∀ t, t < j → ¬ Z t = 0 → g1 (q0 + ms_rc Z t) = nI t ∧ w1 (q0 + ms_rc Z t) = Z t) : ∀ t, t < j + 1 → ¬ Z t = 0 → g1 (q0 + ms_rc Z t) = nI t ∧ w1 (q0 + ms_rc Z t) = Z t := by
  intro t ht hz
  by_cases e : t = j
  · subst e
    exact absurd c hz
  · exact hg t (by omega) hz
def ms_Sup (K S R : Nat) (M : Nat → Nat → Int32) (f g w : Nat → Int32) : Prop :=
  (∀ i, i ≤ R → f i = nI (ms_sc M S i)) ∧ ms_sc M S R ≤ K ∧ ∀ i j, i < R → j < S → ¬ M i j = 0 → g (ms_sc M S i + ms_rc (M i) j) = nI j ∧ w (ms_sc M S i + ms_rc (M i) j) = M i j
def ms_J (g : Nat → Int32) (q0 t : Nat) : Nat := (g (q0 + t)).toNatClampNeg
theorem ms_Jat {K S R : Nat} {M : Nat → Nat → Int32} {f g w : Nat → Int32} (h : ms_Sup K S R M f g w) (hS : S < 2 ^ 31) {i j : Nat} (hi : i < R) (hj : j < S) (hz : ¬ M i j = 0) : ms_J g (ms_sc M S i) (ms_rc (M i) j) = j := by
  unfold ms_J
  rw [(h.2.2 i j hi hj hz).1, nI_clamp (by omega)]
theorem ms_Jt {K S R : Nat} {M : Nat → Nat → Int32} {f g w : Nat → Int32} (h : ms_Sup K S R M f g w) (hS : S < 2 ^ 31) {i t : Nat} (hi : i < R) (ht : t < ms_rc (M i) S) : ms_J g (ms_sc M S i) t < S ∧ ¬ M i (ms_J g (ms_sc M S i) t) = 0 ∧ g (ms_sc M S i + t) = nI (ms_J g (ms_sc M S i) t) ∧ w (ms_sc M S i + t) = M i (ms_J g (ms_sc M S i) t) := by
  obtain ⟨j, h1, h2, h3⟩ := ms_rc_at (M i) S t ht
  subst h3
  have e := ms_Jat h hS hi h1 h2
  rw [e]
  exact ⟨h1, h2, h.2.2 i j hi h1 h2⟩
theorem ms_Sq {K S R : Nat} {M : Nat → Nat → Int32} {f g w : Nat → Int32} (h : ms_Sup K S R M f g w) {i : Nat} (hi : i < R) : f i = nI (ms_sc M S i) ∧ f (i + 1) = nI (ms_sc M S (i + 1)) ∧ ms_sc M S i ≤ ms_sc M S (i + 1) ∧ ms_sc M S (i + 1) ≤ K ∧ ms_sc M S (i + 1) - ms_sc M S i = ms_rc (M i) S := by
  have h1 := ms_sc_mn M S (show i + 1 ≤ R from hi)
  have h2 := h.2.1
  have e : ms_sc M S (i + 1) = ms_sc M S i + ms_rc (M i) S := rfl
  exact ⟨h.1 i (by omega), h.1 (i + 1) hi, by omega, by omega, by omega⟩
/-- entry -/
theorem ms_entry {K S R : Nat} {M : Nat → Nat → Int32} {f g w : Nat → Int32} (h : ms_Sup K S R M f g w) (hS : S < 2 ^ 31) {i j : Nat} (hi : i < R) (hj : j < S) {r : Int32}
    (hr : (∃ q, ms_sc M S i ≤ q ∧ q < ms_sc M S (i + 1) ∧ g q = nI j ∧ r = w q) ∨ (r = 0 ∧ ∀ q, ms_sc M S i ≤ q → q < ms_sc M S (i + 1) → ¬ g q = nI j)) : r = M i j := by
  have e := (ms_Sq h hi).2.2.2.2
  have e2 := (ms_Sq h hi).2.2.1
  rcases hr with ⟨q, h1, h2, h3, h4⟩ | ⟨h1, h2⟩
  · have ht : q - ms_sc M S i < ms_rc (M i) S := by omega
    obtain ⟨k1, k2, k3, k4⟩ := ms_Jt h hS hi ht
    rw [show ms_sc M S i + (q - ms_sc M S i) = q by omega] at k3 k4
    rw [k3] at h3
    have h5 := (nI_eq (by omega) (by omega)).mp h3
    rw [h4, k4, h5]
  · rw [h1]
    by_cases hz : M i j = 0
    · exact hz.symm
    · have h5 := ms_rc_lt hj hz
      exact absurd (h.2.2 i j hi hj hz).1 (h2 _ (by omega) (by omega))
/-- sums over a row's support -/
theorem ms_rowsum {K S R : Nat} {M : Nat → Nat → Int32} {f g w : Nat → Int32} (h : ms_Sup K S R M f g w) (hS : S < 2 ^ 31) {i : Nat} (hi : i < R) (G : Nat → Int32 → Int32) (hG : ∀ j, G j 0 = 0) : ms_sm (fun t => G (ms_J g (ms_sc M S i) t) (w (ms_sc M S i + t))) (ms_rc (M i) S) = ms_sm (fun j => G j (M i j)) S := by
  rw [ms_supp (p := M i) (w := fun t => w (ms_sc M S i + t)) (J := ms_J g (ms_sc M S i)) G S (fun j hj hz => ⟨ms_Jat h hS hi hj hz, (h.2.2 i j hi hj hz).2⟩)]
  refine ms_sm_congr (fun j _ => ?_)
  by_cases hz : M i j = 0
  · rw [if_pos hz, hz, hG]
  · rw [if_neg hz]
theorem ms_addrow {K S R : Nat} {M : Nat → Nat → Int32} {f g w Z u : Nat → Int32} (h : ms_Sup K S R M f g w) (hS : S < 2 ^ 31) {i : Nat} (hi : i < R) {fac : Int32} (hu : ∀ j, u j = Z j + ms_sm (fun t => if ms_J g (ms_sc M S i) t = j then fac * w (ms_sc M S i + t) else 0) (ms_sc M S (i + 1) - ms_sc M S i)) : ∀ j, j < S → u j = Z j + fac * M i j := by
  intro j hj
  rw [hu j, (ms_Sq h hi).2.2.2.2, ms_rowsum h hS hi (fun k v => if k = j then fac * v else 0) (fun k => by rw [Int32.mul_zero]; split <;> rfl), ms_sm_one (F := fun k => fac * M i k) S hj]
theorem ms_sqstep {S : Nat} {u Z1 Z F : Nat → Int32} {G : Nat → Nat → Int32} {t : Nat} (hu : ∀ j, j < S → u j = Z1 j + G t j) (hZ : ∀ j, j < S → Z1 j = Z j + ms_sm (fun t => G t j) t) : ∀ j, j < S → u j = Z j + ms_sm (fun t => G t j) (t + 1) := by
  intro j hj
  rw [hu j hj, hZ j hj, ms_sm, Int32.add_assoc]
theorem ms_sqrow {K S R : Nat} {M : Nat → Nat → Int32} {f g w Z u : Nat → Int32} (h : ms_Sup K S R M f g w) (hS : S < 2 ^ 31) {i : Nat} (hi : i < R) (hu : ∀ j, j < S → u j = Z j + ms_sm (fun t => w (ms_sc M S i + t) * M (ms_J g (ms_sc M S i) t) j) (ms_rc (M i) S)) : ∀ j, j < S → u j = Z j + ms_sm (fun k => M i k * M k j) S := by
  intro j hj
  rw [hu j hj, ms_rowsum h hS hi (fun k v => v * M k j) (fun k => Int32.zero_mul)]
/-- one row more -/
theorem ms_supstep {K S i : Nat} {N : Nat → Nat → Int32} {f g w Z f1 g1 w1 : Nat → Int32} (h : ms_Sup K S i N f g w) (hZ : ∀ j, j < S → Z j = N i j) (hk : ms_sc N S i + ms_rc Z S ≤ K) (hf : f1 = upd f (i + 1) (nI (ms_sc N S i + ms_rc Z S)))
    (hg : ∀ j, j < S → ¬ Z j = 0 → g1 (ms_sc N S i + ms_rc Z j) = nI j ∧ w1 (ms_sc N S i + ms_rc Z j) = Z j) (ho : ∀ q, q < ms_sc N S i → g1 q = g q ∧ w1 q = w q) : ms_Sup K S (i + 1) N f1 g1 w1 := by
  have e : ms_rc Z S = ms_rc (N i) S := ms_rc_congr hZ
  have e2 : ms_sc N S (i + 1) = ms_sc N S i + ms_rc Z S := by rw [ms_sc, e]
  refine ⟨fun a ha => ?_, by rw [e2]; exact hk, fun a j ha hj hz => ?_⟩
  · subst hf
    by_cases hA : a = i + 1
    · subst hA
      rw [pk_us, e2]
    · rw [pk_un hA]
      exact h.1 a (by omega)
  · by_cases hA : a = i
    · subst hA
      have e3 : ms_rc (N a) j = ms_rc Z j := ms_rc_congr (fun t ht => (hZ t (by omega)).symm)
      rw [e3, ← hZ j hj]
      exact hg j hj (by rw [hZ j hj]; exact hz)
    · have h1 := ms_sc_lt (R := i) (show a < i by omega) hj hz
      obtain ⟨k1, k2⟩ := ho _ h1
      rw [k1, k2]
      exact h.2.2 a j (by omega) hj hz
theorem ms_sup0 {K S : Nat} {N : Nat → Nat → Int32} {f g w : Nat → Int32} (h : f 0 = 0) : ms_Sup K S 0 N f g w :=
  ⟨fun i hi => by
    have : i = 0 := by omega
    subst this
    rw [h]; rfl, Nat.zero_le _, fun i j hi => absurd hi (Nat.not_lt_zero i)⟩
theorem ms_sup_congr {K S R : Nat} {M N : Nat → Nat → Int32} {f g w : Nat → Int32} (h : ms_Sup K S R M f g w) (e : ∀ i j, M i j = N i j) : ms_Sup K S R N f g w := by
  have : M = N := funext fun i => funext fun j => e i j
  rw [← this]
  exact h
