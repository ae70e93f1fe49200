/-! plain facts: sums, counts of what isn't 0, places, clamps -/
def ms_sm (F : Nat → Int32) : Nat → Int32
  | 0 => 0
  | n + 1 => ms_sm F n + F n
def ms_rc (p : Nat → Int32) : Nat → Nat
  | 0 => 0
  | n + 1 => ms_rc p n + (if p n = 0 then 0 else 1)
def ms_sc (M : Nat → Nat → Int32) (S : Nat) : Nat → Nat
  | 0 => 0
  | i + 1 => ms_sc M S i + ms_rc (M i) S
def ms_bI (b : Bool) : Int32 := if b then 1 else 0
def ms_in (x : Int32) (N : Nat) : Bool := decide (0 ≤ x.toInt ∧ x.toInt < (N : Int))
def ms_cl (x : Int32) (N : Nat) : Nat := if x.toInt < 1 then 1 else if (N : Int) < x.toInt then N else x.toInt.toNat
theorem ms_lt (a b : Int32) : a < b ↔ a.toInt < b.toInt := Int32.lt_iff_toInt_lt
theorem ms_le (a b : Int32) : a ≤ b ↔ a.toInt ≤ b.toInt := Int32.le_iff_toInt_le
theorem ms_eq (a b : Int32) : a = b ↔ a.toInt = b.toInt := ⟨fun h => by rw [h], fun h => Int32.toInt_inj.mp h⟩
theorem ms_z : (0 : Int32).toInt = 0 := by decide
theorem ms_nz : nI 0 = 0 := by decide
theorem ms_n1 : nI 1 = 1 := by decide
theorem ms_bI_nar (b : Bool) : narrow .boolean (.int (ms_bI b)) = .int (ms_bI b) := by cases b <;> rfl
theorem ms_bI_t {b : Bool} (h : b = true) : nI 1 = ms_bI b := by rw [h]; decide
theorem ms_bI_f {b : Bool} (h : b = false) : nI 0 = ms_bI b := by rw [h]; decide
theorem ms_bI_0 {b : Bool} : ms_bI b = 0 ↔ b = false := by cases b <;> decide
theorem ms_bI_n {b : Bool} : ¬ ms_bI b = 0 ↔ b = true := by cases b <;> decide
theorem ms_in_t {x : Int32} {N : Nat} (hN : N < 2 ^ 31) (h1 : ¬ x < 0) (h2 : ¬ nI N ≤ x) : ms_in x N = true := by
  rw [ms_lt, ms_z] at h1
  rw [ms_le, nI_toInt hN] at h2
  exact decide_eq_true ⟨by omega, by omega⟩
theorem ms_in_f1 {x : Int32} {N : Nat} (h1 : x < 0) : ms_in x N = false := by
  rw [ms_lt, ms_z] at h1
  exact decide_eq_false (fun q => by omega)
theorem ms_in_f2 {x : Int32} {N : Nat} (hN : N < 2 ^ 31) (h2 : nI N ≤ x) : ms_in x N = false := by
  rw [ms_le, nI_toInt hN] at h2
  exact decide_eq_false (fun q => by omega)
theorem ms_in_of {x : Int32} {N : Nat} (h : ms_in x N = true) (hN : N < 2 ^ 31) : ∃ j : Nat, j < N ∧ x = nI j := by
  have h := of_decide_eq_true h
  exact vp_in_of (vp_in_iff.mpr ⟨h.1, h.2⟩) hN
theorem ms_in_nI {j N : Nat} (h : j < N) (hN : N < 2 ^ 31) : ms_in (nI j) N = true := by
  refine decide_eq_true ?_
  rw [nI_toInt (by omega)]
  omega
theorem ms_cl_b {x : Int32} {N : Nat} (hN : 1 ≤ N) : 1 ≤ ms_cl x N ∧ ms_cl x N ≤ N := by
  unfold ms_cl
  split
  · omega
  · split
    · omega
    · omega
theorem ms_of_toInt {x : Int32} {n : Nat} (hn : n < 2 ^ 31) (h : x.toInt = (n : Int)) : x = nI n := by
  rw [ms_eq, h, nI_toInt hn]
theorem ms_cl_1 {x : Int32} {N : Nat} (h : x.toInt < 1) : nI 1 = nI (ms_cl x N) := by
  unfold ms_cl
  rw [if_pos h]
theorem ms_cl_2 {x : Int32} {N : Nat} (h : ¬ x.toInt < 1) (h2 : (N : Int) < x.toInt) : nI N = nI (ms_cl x N) := by
  unfold ms_cl
  rw [if_neg h, if_pos h2]
theorem ms_cl_3 {x : Int32} {N : Nat} (hN : N < 2 ^ 31) (h : ¬ x.toInt < 1) (h2 : ¬ (N : Int) < x.toInt) : x = nI (ms_cl x N) := by
  unfold ms_cl
  rw [if_neg h, if_neg h2]
  exact ms_of_toInt (by omega) (by omega)
theorem ms_one : (1 : Int32).toInt = 1 := by decide
/-- Math.max(1, Math.min(N, x)) -/
theorem ms_near {x : Int32} {N : Nat} (h1 : 1 ≤ N) (hN : N < 2 ^ 31) : (if nI 1 < (if x < nI N then x else nI N) then (if x < nI N then x else nI N) else nI 1) = nI (ms_cl x N) := by
  by_cases c1 : x < nI N
  · rw [if_pos c1]
    rw [ms_lt, nI_toInt hN] at c1
    by_cases c2 : nI 1 < x
    · rw [if_pos c2]
      rw [ms_lt, ms_n1, ms_one] at c2
      exact ms_cl_3 hN (by omega) (by omega)
    · rw [if_neg c2]
      rw [ms_lt, ms_n1, ms_one] at c2
      by_cases c3 : x.toInt < 1
      · exact ms_cl_1 c3
      · rw [← ms_cl_3 hN c3 (by omega)]
        exact (ms_of_toInt (by omega) (by omega)).symm
  · rw [if_neg c1]
    rw [ms_lt, nI_toInt hN] at c1
    by_cases c2 : nI 1 < nI N
    · rw [if_pos c2]
      by_cases c4 : (N : Int) < x.toInt
      · exact ms_cl_2 (by omega) c4
      · rw [← ms_cl_3 hN (by omega) c4]
        exact (ms_of_toInt hN (by omega)).symm
    · rw [if_neg c2]
      rw [nI_ltI (by omega) hN] at c2
      have : N = 1 := by omega
      subst this
      by_cases c4 : ((1 : Nat) : Int) < x.toInt
      · exact ms_cl_2 (by omega) c4
      · rw [← ms_cl_3 hN (by omega) c4]
        exact (ms_of_toInt hN (by omega)).symm
theorem ms_max {a b : Nat} (ha : a < 2 ^ 31) (hb : b < 2 ^ 31) : (if nI a < nI b then nI b else nI a) = nI (max a b) := by
  by_cases h : nI a < nI b
  · rw [if_pos h]
    rw [nI_ltI ha hb] at h
    rw [Nat.max_eq_right (by omega)]
  · rw [if_neg h]
    rw [nI_ltI ha hb] at h
    rw [Nat.max_eq_left (by omega)]
theorem ms_sm_congr {F G : Nat → Int32} : ∀ {n : Nat}, (∀ t, t < n → F t = G t) → ms_sm F n = ms_sm G n
  | 0, _ => rfl
  | n + 1, h => by
    rw [ms_sm, ms_sm, ms_sm_congr (fun t ht => h t (Nat.lt_succ_of_lt ht)), h n (Nat.lt_succ_self n)]
theorem ms_sm_zero {F : Nat → Int32} : ∀ {n : Nat}, (∀ t, t < n → F t = 0) → ms_sm F n = 0
  | 0, _ => rfl
  | n + 1, h => by
    rw [ms_sm, ms_sm_zero (fun t ht => h t (Nat.lt_succ_of_lt ht)), h n (Nat.lt_succ_self n), Int32.add_zero]
theorem ms_sm_wide {F : Nat → Int32} {a : Nat} : ∀ (b : Nat), (∀ t, a ≤ t → F t = 0) → ms_sm F (a + b) = ms_sm F a
  | 0, _ => rfl
  | b + 1, h => by
    rw [← Nat.add_assoc, ms_sm, ms_sm_wide b h, h (a + b) (by omega), Int32.add_zero]
theorem ms_rc_congr {p q : Nat → Int32} : ∀ {n : Nat}, (∀ t, t < n → p t = q t) → ms_rc p n = ms_rc q n
  | 0, _ => rfl
  | n + 1, h => by
    rw [ms_rc, ms_rc, ms_rc_congr (fun t ht => h t (Nat.lt_succ_of_lt ht)), h n (Nat.lt_succ_self n)]
theorem ms_rc_le (p : Nat → Int32) : ∀ n, ms_rc p n ≤ n
  | 0 => Nat.le_refl 0
  | n + 1 => by
    have := ms_rc_le p n
    rw [ms_rc]
    split <;> omega
theorem ms_rc_mono (p : Nat → Int32) (a : Nat) : ∀ b, ms_rc p a ≤ ms_rc p (a + b)
  | 0 => Nat.le_refl _
  | b + 1 => by
    have := ms_rc_mono p a b
    rw [← Nat.add_assoc, ms_rc]
    omega
theorem ms_rc_lt {p : Nat → Int32} {j n : Nat} (h : j < n) (hp : ¬ p j = 0) : ms_rc p j < ms_rc p n := by
  have h1 := ms_rc_mono p (j + 1) (n - (j + 1))
  rw [show j + 1 + (n - (j + 1)) = n by omega, ms_rc, if_neg hp] at h1
  omega
theorem ms_rc_wide {p : Nat → Int32} {a : Nat} : ∀ (b : Nat), (∀ t, a ≤ t → p t = 0) → ms_rc p (a + b) = ms_rc p a
  | 0, _ => rfl
  | b + 1, h => by
    rw [← Nat.add_assoc, ms_rc, ms_rc_wide b h, if_pos (h (a + b) (by omega)), Nat.add_zero]
theorem ms_rc_yes {p : Nat → Int32} {n : Nat} (h : ¬ p n = 0) : ms_rc p (n + 1) = ms_rc p n + 1 := by rw [ms_rc, if_neg h]
theorem ms_rc_no {p : Nat → Int32} {n : Nat} (h : p n = 0) : ms_rc p (n + 1) = ms_rc p n := by rw [ms_rc, if_pos h, Nat.add_zero]
theorem ms_rc_at (p : Nat → Int32) : ∀ (n t : Nat), t < ms_rc p n → ∃ j, j < n ∧ ¬ p j = 0 ∧ ms_rc p j = t
  | 0, t, h => absurd h (Nat.not_lt_zero t)
  | n + 1, t, h => by
    by_cases hp : p n = 0
    · rw [ms_rc_no hp] at h
      obtain ⟨j, h1, h2, h3⟩ := ms_rc_at p n t h
      exact ⟨j, by omega, h2, h3⟩
    · rw [ms_rc_yes hp] at h
      by_cases ht : t < ms_rc p n
      · obtain ⟨j, h1, h2, h3⟩ := ms_rc_at p n t ht
        exact ⟨j, by omega, h2, h3⟩
      · exact ⟨n, by omega, hp, by omega⟩
theorem ms_sc_le (M : Nat → Nat → Int32) (S : Nat) : ∀ i, ms_sc M S i ≤ i * S
  | 0 => by rw [ms_sc]; omega
  | i + 1 => by
    have h1 := ms_sc_le M S i
    have h2 := ms_rc_le (M i) S
    rw [ms_sc, Nat.succ_mul]
    omega
theorem ms_sc_mono (M : Nat → Nat → Int32) (S a : Nat) : ∀ b, ms_sc M S a ≤ ms_sc M S (a + b)
  | 0 => Nat.le_refl _
  | b + 1 => by
    have := ms_sc_mono M S a b
    rw [← Nat.add_assoc, ms_sc]
    omega
theorem ms_sc_mn (M : Nat → Nat → Int32) (S : Nat) {a b : Nat} (h : a ≤ b) : ms_sc M S a ≤ ms_sc M S b := by
  have := ms_sc_mono M S a (b - a)
  rw [show a + (b - a) = b by omega] at this
  exact this
theorem ms_sc_congr {M N : Nat → Nat → Int32} {S : Nat} : ∀ {n : Nat}, (∀ i j, i < n → j < S → M i j = N i j) → ms_sc M S n = ms_sc N S n
  | 0, _ => rfl
  | n + 1, h => by
    rw [ms_sc, ms_sc, ms_sc_congr (fun i j hi hj => h i j (Nat.lt_succ_of_lt hi) hj), ms_rc_congr (fun t ht => h n t (Nat.lt_succ_self n) ht)]
theorem ms_sc_wide {M : Nat → Nat → Int32} {C S : Nat} (hC : C ≤ S) (h : ∀ i j, C ≤ j → M i j = 0) : ∀ i, ms_sc M S i = ms_sc M C i
  | 0 => rfl
  | i + 1 => by
    have e := ms_rc_wide (p := M i) (a := C) (S - C) (fun t ht => h i t ht)
    rw [show C + (S - C) = S by omega] at e
    rw [ms_sc, ms_sc, ms_sc_wide hC h i, e]
/-- a place of the support by its number -/
theorem ms_sc_at (M : Nat → Nat → Int32) (S : Nat) : ∀ (n t : Nat), t < ms_sc M S n → ∃ i j, i < n ∧ j < S ∧ ¬ M i j = 0 ∧ ms_sc M S i + ms_rc (M i) j = t
  | 0, t, h => absurd h (Nat.not_lt_zero t)
  | n + 1, t, h => by
    by_cases ht : t < ms_sc M S n
    · obtain ⟨i, j, h1, h2, h3, h4⟩ := ms_sc_at M S n t ht
      exact ⟨i, j, by omega, h2, h3, h4⟩
    · rw [ms_sc] at h
      obtain ⟨j, h1, h2, h3⟩ := ms_rc_at (M n) S (t - ms_sc M S n) (by omega)
      exact ⟨n, j, by omega, h1, h2, by omega⟩
theorem ms_sc_lt {M : Nat → Nat → Int32} {S R i j : Nat} (hi : i < R) (hj : j < S) (h : ¬ M i j = 0) : ms_sc M S i + ms_rc (M i) j < ms_sc M S R := by
  have h1 := ms_rc_lt hj h
  have h2 := ms_sc_mn M S (show i + 1 ≤ R from hi)
  rw [ms_sc] at h2
  omega
/-- sums over the support of a row -/
theorem ms_supp {p w : Nat → Int32} {J : Nat → Nat} (G : Nat → Int32 → Int32) : ∀ (S : Nat), (∀ j, j < S → ¬ p j = 0 → J (ms_rc p j) = j ∧ w (ms_rc p j) = p j) → ms_sm (fun t => G (J t) (w t)) (ms_rc p S) = ms_sm (fun j => if p j = 0 then 0 else G j (p j)) S
  | 0, _ => rfl
  | S + 1, h => by
    have ih := ms_supp G S (fun j hj hp => h j (Nat.lt_succ_of_lt hj) hp)
    by_cases hp : p S = 0
    · rw [ms_rc_no hp, ih, ms_sm, if_pos hp, Int32.add_zero]
    · obtain ⟨h1, h2⟩ := h S (Nat.lt_succ_self S) hp
      rw [ms_rc_yes hp, ms_sm, ih, ms_sm, if_neg hp, h1, h2]
theorem ms_sm_one {F : Nat → Int32} {j : Nat} : ∀ (n : Nat), j < n → ms_sm (fun t => if t = j then F t else 0) n = F j
  | 0, h => absurd h (Nat.not_lt_zero j)
  | n + 1, h => by
    rw [ms_sm]
    by_cases hn : j = n
    · subst hn
      rw [if_pos rfl, ms_sm_zero (fun t ht => if_neg (by omega)), Int32.zero_add]
    · rw [ms_sm_one n (by omega), if_neg (by omega), Int32.add_zero]
/-- the whole count the other way round -/
def ms_sN (F : Nat → Nat) : Nat → Nat
  | 0 => 0
  | n + 1 => ms_sN F n + F n
theorem ms_sN_congr {F G : Nat → Nat} : ∀ {n : Nat}, (∀ t, t < n → F t = G t) → ms_sN F n = ms_sN G n
  | 0, _ => rfl
  | n + 1, h => by
    rw [ms_sN, ms_sN, ms_sN_congr (fun t ht => h t (Nat.lt_succ_of_lt ht)), h n (Nat.lt_succ_self n)]
theorem ms_sN_add (F G : Nat → Nat) : ∀ n, ms_sN (fun t => F t + G t) n = ms_sN F n + ms_sN G n
  | 0 => rfl
  | n + 1 => by rw [ms_sN, ms_sN, ms_sN, ms_sN_add F G n]; omega
theorem ms_sN_0 : ∀ n, ms_sN (fun _ => 0) n = 0
  | 0 => rfl
  | n + 1 => by rw [ms_sN, ms_sN_0 n]
def ms_b1 (x : Int32) : Nat := if x = 0 then 0 else 1
theorem ms_rc_sN (p : Nat → Int32) : ∀ n, ms_rc p n = ms_sN (fun j => ms_b1 (p j)) n
  | 0 => rfl
  | n + 1 => by rw [ms_rc, ms_sN, ms_rc_sN p n]; rfl
theorem ms_sc_sN (M : Nat → Nat → Int32) (S : Nat) : ∀ n, ms_sc M S n = ms_sN (fun i => ms_sN (fun j => ms_b1 (M i j)) S) n
  | 0 => rfl
  | n + 1 => by rw [ms_sc, ms_sN, ms_sc_sN M S n, ms_rc_sN]
theorem ms_sN_swap (F : Nat → Nat → Nat) (a : Nat) : ∀ b, ms_sN (fun i => ms_sN (fun j => F i j) b) a = ms_sN (fun j => ms_sN (fun i => F i j) a) b
  | 0 => ms_sN_0 a
  | b + 1 => by
    rw [ms_sN, ← ms_sN_swap F a b, ← ms_sN_add]
    rfl
theorem ms_sN_wide {F : Nat → Nat} {a : Nat} : ∀ (b : Nat), (∀ t, a ≤ t → F t = 0) → ms_sN F (a + b) = ms_sN F a
  | 0, _ => rfl
  | b + 1, h => by rw [← Nat.add_assoc, ms_sN, ms_sN_wide b h, h (a + b) (by omega), Nat.add_zero]
/-- a matrix and the one turned about have as many places -/
theorem ms_turn {M : Nat → Nat → Int32} {R C S : Nat} (hR : R ≤ S) (hC : C ≤ S) (h : ∀ i j, R ≤ i ∨ C ≤ j → M i j = 0) : ms_sc (fun i j => M j i) S C = ms_sc M S R := by
  have e1 := ms_sc_wide (M := fun i j => M j i) hR (fun i j hj => h j i (Or.inl hj)) C
  have e2 := ms_sc_wide hC (fun i j hj => h i j (Or.inr hj)) R
  rw [e1, e2, ms_sc_sN, ms_sc_sN]
  exact ms_sN_swap (fun i j => ms_b1 (M j i)) C R
