/-! what a state IS: numbers K R C S np, the matrix, what is pending (summed by place), x, y; how the class holds it and how the reference does -/
abbrev st_A : Type := (Nat × Nat × Nat × Nat × Nat) × (Nat → Nat → Int32) × (Nat → Nat → Int32) × (Nat → Int32) × (Nat → Int32)
abbrev st_3 : Type := (Nat → Int32) × (Nat → Int32) × (Nat → Int32)
abbrev st_4 : Type := Nat × Nat × Nat × Nat
abbrev st_C : Type := st_4 × st_4 × st_3 × st_3 × st_3 × st_3
abbrev st_M : Type := (Nat × Nat) × (Nat → Int32) × (Nat → Int32) × st_3
def st_wC (cI : ClassId) (o ar ac av vx py li : Nat) : st_A → st_C → va_W
  | ((K, R, C, S, np), _, _, _, _), ((su, sa, sb, sc), (sp, ta, tb, tc), (f, g, w), (f2, g2, w2), (pR, pC, pV), (vX, pY, lI)) =>
    [(o, .inr (1, [.int (nI K), .int (nI R), .int (nI C), .ref su, .ref sp, .ref ar, .ref ac, .ref av, .int (nI np), .ref vx, .ref py, .ref li])), (su, .inr (0, [.ref sa, .ref sb, .ref sc])), (sa, .inl (cI, S + 1, .inl f)), (sb, .inl (cI, K, .inl g)), (sc, .inl (cI, K, .inl w)), (sp, .inr (0, [.ref ta, .ref tb, .ref tc])), (ta, .inl (cI, S + 1, .inl f2)), (tb, .inl (cI, K, .inl g2)), (tc, .inl (cI, K, .inl w2)), (ar, .inl (cI, K, .inl pR)), (ac, .inl (cI, K, .inl pC)), (av, .inl (cI, K, .inl pV)), (vx, .inl (cI, S, .inl vX)), (py, .inl (cI, S, .inl pY)), (li, .inl (cI, S, .inl lI))]
def st_wM (cI : ClassId) (o mo xx yy : Nat) : st_A → st_M → va_W
  | ((K, R, C, _, np), _, _, _, _), ((ta, ot), T, O, (E, xX, yY)) =>
    [(o, .inr (2, [.int (nI K), .int (nI R), .int (nI C), .int (nI np), .ref ta, .ref ot, .ref mo, .ref xx, .ref yy])), (ta, .inl (cI, 3600, .inl T)), (ot, .inl (cI, 3600, .inl O)), (mo, .inl (cI, 3600, .inl E)), (xx, .inl (cI, 60, .inl xX)), (yy, .inl (cI, 60, .inl yY))]
def st_WF (K R C S np : Nat) (M : Nat → Nat → Int32) : Prop := (1 ≤ R ∧ 1 ≤ C ∧ R ≤ S ∧ C ≤ S ∧ S ≤ 60 ∧ 1 ≤ K ∧ K ≤ 1000 ∧ np ≤ K) ∧ ∀ i j, R ≤ i ∨ C ≤ j → M i j = 0
def st_ps (pR pC pV : Nat → Int32) (i j np : Nat) : Int32 := ms_sm (fun p => if pC p = nI j then (if pR p = nI i then pV p else 0) else 0) np
def st_RC (K R C S np : Nat) (M P : Nat → Nat → Int32) (X Y f g w f2 pR pC pV vX pY : Nat → Int32) : Prop :=
  st_WF K R C S np M ∧ ms_Sup K S R M f g w ∧ f2 0 = 0 ∧ (∀ p, p < np → ∃ i j, i < R ∧ j < C ∧ pR p = nI i ∧ pC p = nI j) ∧ (∀ i j, i < 60 → j < 60 → P i j = st_ps pR pC pV i j np) ∧ (∀ j, j < C → vX j = X j) ∧ ∀ i, i < R → pY i = Y i
def st_RM (K R C S np : Nat) (M P : Nat → Nat → Int32) (X Y T E xX yY : Nat → Int32) : Prop :=
  st_WF K R C S np M ∧ (∀ i j, i < R → j < C → T (60 * i + j) = M i j) ∧ (∀ i j, i < 60 → j < 60 → E (60 * i + j) = P i j) ∧ (np = 0 → ∀ i j, i < 60 → j < 60 → P i j = 0) ∧ (∀ j, j < C → xX j = X j) ∧ ∀ i, i < R → yY i = Y i
def st_rc : st_A → st_C → Prop
  | ((K, R, C, S, np), M, P, X, Y), (_, _, (f, g, w), (f2, _, _), (pR, pC, pV), (vX, pY, _)) => st_RC K R C S np M P X Y f g w f2 pR pC pV vX pY
def st_rm : st_A → st_M → Prop
  | ((K, R, C, S, np), M, P, X, Y), (_, T, _, (E, xX, yY)) => st_RM K R C S np M P X Y T E xX yY
/-- what each call answers and what it makes of a state -/
def an_add : st_A → Int32 → Int32 → Int32 × Bool
  | ((K, R, C, _, np), _, _, _, _), i, j => (ms_bI (ms_in i R && ms_in j C && decide (np < K)), (ms_in i R && ms_in j C && decide (np < K)))
def up_add : st_A → Int32 → Int32 → Int32 → st_A
  | ((K, R, C, S, np), M, P, X, Y), i, j, v => if (ms_in i R && ms_in j C && decide (np < K)) = true then ((K, R, C, S, np + 1), M, (fun a b => if nI a = i ∧ nI b = j then P a b + v else P a b), X, Y) else ((K, R, C, S, np), M, P, X, Y)
def ms_pl (R C : Nat) (M P : Nat → Nat → Int32) : Nat → Nat → Int32 := fun i j => if i < R ∧ j < C then M i j + P i j else 0
def ms_sq (S : Nat) (M : Nat → Nat → Int32) : Nat → Nat → Int32 := fun i j => ms_sm (fun k => M i k * M k j) S
def an_build : st_A → Int32
  | ((K, R, C, S, _), M, P, _, _) => if ms_sc (ms_pl R C M P) S R ≤ K then nI (ms_sc (ms_pl R C M P) S R) else -1
def up_build : st_A → st_A
  | ((K, R, C, S, np), M, P, X, Y) => if ms_sc (ms_pl R C M P) S R ≤ K then ((K, R, C, S, 0), ms_pl R C M P, (fun _ _ => 0), X, Y) else ((K, R, C, S, np), M, P, X, Y)
def an_nnz : st_A → Int32
  | ((_, R, _, S, _), M, _, _, _) => nI (ms_sc M S R)
def an_at : st_A → Int32 → Int32 → Int32
  | ((_, R, C, _, _), M, _, _, _), i, j => if (ms_in i R && ms_in j C) = true then M i.toNatClampNeg j.toNatClampNeg else 0
def an_rowStart : st_A → Int32 → Int32
  | ((_, R, _, S, _), M, _, _, _), i => if ms_in i (R + 1) = true then nI (ms_sc M S i.toNatClampNeg) else -1
def an_colAt : st_A → Int32 → Int32 → Prop
  | ((_, R, _, S, _), M, _, _, _), k, r => (∃ i j, i < R ∧ j < S ∧ ¬ M i j = 0 ∧ k = nI (ms_sc M S i + ms_rc (M i) j) ∧ r = nI j) ∨ (r = -1 ∧ (k < 0 ∨ nI (ms_sc M S R) ≤ k))
def an_setX : st_A → Int32 → Int32
  | ((_, _, C, _, _), _, _, _, _), j => ms_bI (ms_in j C)
def up_setX : st_A → Int32 → Int32 → st_A
  | ((K, R, C, S, np), M, P, X, Y), j, v => if ms_in j C = true then ((K, R, C, S, np), M, P, upd X j.toNatClampNeg v, Y) else ((K, R, C, S, np), M, P, X, Y)
def up_mul : st_A → st_A
  | ((K, R, C, S, np), M, P, X, _) => ((K, R, C, S, np), M, P, X, fun i => ms_sm (fun j => M i j * X j) C)
def an_y : st_A → Int32 → Int32
  | ((_, R, _, _, _), _, _, _, Y), i => if ms_in i R = true then Y i.toNatClampNeg else 0
def an_turn : st_A → Int32
  | ((_, _, _, _, np), _, _, _, _) => if np = 0 then 1 else 0
def up_turn : st_A → st_A
  | ((K, R, C, S, np), M, P, X, Y) => if np = 0 then ((K, C, R, S, np), (fun i j => M j i), P, (fun _ => 0), fun _ => 0) else ((K, R, C, S, np), M, P, X, Y)
def an_square : st_A → Int32
  | ((K, R, C, S, _), M, _, _, _) => if R = C then (if ms_sc (ms_sq S M) S R ≤ K then nI (ms_sc (ms_sq S M) S R) else -1) else -2
def up_square : st_A → st_A
  | ((K, R, C, S, np), M, P, X, Y) => if R = C then (if ms_sc (ms_sq S M) S R ≤ K then ((K, R, C, S, np), ms_sq S M, P, X, Y) else ((K, R, C, S, np), M, P, X, Y)) else ((K, R, C, S, np), M, P, X, Y)
def an_count : st_A → Int32 → Int32
  | ((K, R, C, _, np), _, _, _, _), w => if w = 0 then nI R else if w = 1 then nI C else if w = 2 then nI K else if w = 3 then nI np else -1
/-- a place by its number is one place -/
theorem ms_place {M : Nat → Nat → Int32} {S i j a b : Nat} (hj : j < S) (hb : b < S) (h1 : ¬ M i j = 0) (h2 : ¬ M a b = 0) (e : ms_sc M S i + ms_rc (M i) j = ms_sc M S a + ms_rc (M a) b) : j = b := by
  rcases Nat.lt_trichotomy i a with h | h | h
  · have := ms_sc_lt (R := a) h hj h1
    omega
  · subst h
    rcases Nat.lt_trichotomy j b with k | k | k
    · have := ms_rc_lt (p := M i) k h1
      omega
    · exact k
    · have := ms_rc_lt (p := M i) k h2
      omega
  · have := ms_sc_lt (R := i) h hb h2
    omega
theorem an_colAt_one {a : st_A} {k r r2 : Int32} (hS : a.1.2.2.2.1 ≤ 60) (hR : a.1.2.1 ≤ 60) (h1 : an_colAt a k r) (h2 : an_colAt a k r2) : r = r2 := by
  obtain ⟨⟨K, R, C, S, np⟩, M, P, X, Y⟩ := a
  have hS : S ≤ 60 := hS
  have hR : R ≤ 60 := hR
  have hm : ms_sc M S R ≤ R * S := ms_sc_le M S R
  have hm2 : R * S ≤ 60 * 60 := Nat.mul_le_mul hR hS
  have key : ∀ i j : Nat, i < R → j < S → ¬ M i j = 0 → ∀ k : Int32, k = nI (ms_sc M S i + ms_rc (M i) j) → ¬ (k < 0 ∨ nI (ms_sc M S R) ≤ k) := by
    intro i j hi hj hz k hk q
    subst hk
    have := ms_sc_lt hi hj hz
    rcases q with q | q
    · exact nI_pos (by omega) q
    · rw [nI_leI (by omega) (by omega)] at q
      omega
  rcases h1 with ⟨i, j, a1, a2, a3, a4, a5⟩ | ⟨a1, a2⟩
  · rcases h2 with ⟨i2, j2, b1, b2, b3, b4, b5⟩ | ⟨b1, b2⟩
    · have p1 := ms_sc_lt a1 a2 a3
      have p2 := ms_sc_lt b1 b2 b3
      rw [a4] at b4
      rw [nI_eq (by omega) (by omega)] at b4
      rw [a5, b5, ms_place a2 b2 a3 b3 b4]
    · exact absurd b2 (key i j a1 a2 a3 k a4)
  · rcases h2 with ⟨i2, j2, b1, b2, b3, b4, b5⟩ | ⟨b1, b2⟩
    · exact absurd a2 (key i2 j2 b1 b2 b3 k b4)
    · rw [a1, b1]
/-- the class: what is pending -/
theorem st_ps_add {pR pC pV : Nat → Int32} {np i0 j0 a b : Nat} {v : Int32} (hi : i0 < 60) (hj : j0 < 60) (ha : a < 60) (hb : b < 60) : st_ps (upd pR np (nI i0)) (upd pC np (nI j0)) (upd pV np v) a b (np + 1) = if nI a = nI i0 ∧ nI b = nI j0 then st_ps pR pC pV a b np + v else st_ps pR pC pV a b np := by
  unfold st_ps
  rw [ms_sm]
  rw [ms_sm_congr (G := fun p => if pC p = nI b then (if pR p = nI a then pV p else 0) else 0) (fun t ht => by rw [pk_un (show t ≠ np by omega), pk_un (show t ≠ np by omega), pk_un (show t ≠ np by omega)])]
  rw [pk_us, pk_us, pk_us]
  by_cases h1 : nI j0 = nI b
  · by_cases h2 : nI i0 = nI a
    · rw [if_pos h1, if_pos h2, if_pos ⟨h2.symm, h1.symm⟩]
    · rw [if_pos h1, if_neg h2, if_neg (fun q => h2 q.1.symm), Int32.add_zero]
  · rw [if_neg h1, if_neg (fun q => h1 q.2.symm), Int32.add_zero]
theorem st_ps_out {pR pC pV : Nat → Int32} {R C np i j : Nat} (hC : C ≤ 60) (hj : j < 60) (h : ∀ p, p < np → ∃ i j, i < R ∧ j < C ∧ pR p = nI i ∧ pC p = nI j) (hc : C ≤ j) : st_ps pR pC pV i j np = 0 := by
  refine ms_sm_zero (fun t ht => if_neg (fun q => ?_))
  obtain ⟨a, b, h1, h2, h3, h4⟩ := h t ht
  rw [h4, nI_eq (by omega) (by omega)] at q
  omega
/-- a row of the sum, as the class makes it -/
theorem st_line {K R C S np i : Nat} {M P : Nat → Nat → Int32} {X Y f g w f2 pR pC pV vX pY u1 u2 u3 : Nat → Int32} (h : st_RC K R C S np M P X Y f g w f2 pR pC pV vX pY) (hi : i < R) (h1 : ∀ j, j < S → u1 j = nI 0) (h2 : ∀ j, j < S → u2 j = u1 j + nI 1 * M i j) (h3 : ∀ j, u3 j = u2 j + ms_sm (fun p => if (pC p).toNatClampNeg = j then (if pR p = nI i then pV p else 0) else 0) np) : ∀ j, j < S → u3 j = ms_pl R C M P i j := by
  obtain ⟨⟨⟨w1, w2, w3, w4, w5, w6, w7, w8⟩, hM⟩, -, -, hp, hps, -, -⟩ := h
  intro j hj
  have e : ms_sm (fun p => if (pC p).toNatClampNeg = j then (if pR p = nI i then pV p else 0) else 0) np = st_ps pR pC pV i j np := by
    refine ms_sm_congr (fun t ht => ?_)
    obtain ⟨a, b, k1, k2, k3, k4⟩ := hp t ht
    have e1 : (pC t).toNatClampNeg = b := by rw [k4, nI_clamp (by omega)]
    have e2 : (pC t = nI j) = (b = j) := by rw [k4, nI_eq (by omega) (by omega)]
    rw [e1]
    by_cases c : b = j
    · rw [if_pos c, if_pos (e2.mpr c)]
    · rw [if_neg c, if_neg (fun q => c (e2.mp q))]
  rw [h3, e, h2 j hj, h1 j hj, ms_nz, ms_n1, Int32.zero_add, Int32.one_mul]
  unfold ms_pl
  by_cases c : j < C
  · rw [if_pos ⟨hi, c⟩, hps i j (by omega) (by omega)]
  · rw [if_neg (fun q => c q.2), hM i j (Or.inr (by omega)), st_ps_out (by omega) (by omega) hp (by omega), Int32.add_zero]
theorem st_pl0 {R C : Nat} {M P : Nat → Nat → Int32} : ∀ i j, R ≤ i ∨ C ≤ j → ms_pl R C M P i j = 0 := fun i j h => if_neg (fun q => by omega)
theorem st_build {K R C S np : Nat} {M P : Nat → Nat → Int32} {X Y f g w f2 pR pC pV vX pY f3 g3 w3 : Nat → Int32} (h : st_RC K R C S np M P X Y f g w f2 pR pC pV vX pY) (hs : ms_Sup K S R (ms_pl R C M P) f3 g3 w3) : st_RC K R C S 0 (ms_pl R C M P) (fun _ _ => 0) X Y f3 g3 w3 f pR pC pV vX pY := by
  obtain ⟨⟨⟨w1, w2, w3, w4, w5, w6, w7, w8⟩, hM⟩, h2, h3, hp, hps, hX, hY⟩ := h
  exact ⟨⟨⟨w1, w2, w3, w4, w5, w6, w7, Nat.zero_le _⟩, st_pl0⟩, hs, h2.1 0 (Nat.zero_le _), fun p hp => absurd hp (Nat.not_lt_zero p), fun i j _ _ => rfl, hX, hY⟩
theorem st_spare {K R C S np : Nat} {M P : Nat → Nat → Int32} {X Y f g w f2 f3 pR pC pV vX pY : Nat → Int32} (h : st_RC K R C S np M P X Y f g w f2 pR pC pV vX pY) (h0 : f3 0 = 0) : st_RC K R C S np M P X Y f g w f3 pR pC pV vX pY := ⟨h.1, h.2.1, h0, h.2.2.2⟩
theorem st_sup0 {K S i : Nat} {N : Nat → Nat → Int32} {f g w : Nat → Int32} (h : ms_Sup K S i N f g w) : f 0 = 0 := h.1 0 (Nat.zero_le _)
theorem ms_sc_over {K S R i : Nat} {N : Nat → Nat → Int32} {Z : Nat → Int32} (hi : i < R) (hZ : ∀ j, j < S → Z j = N i j) (h : K < ms_sc N S i + ms_rc Z S) : ¬ ms_sc N S R ≤ K := by
  have h1 := ms_sc_mn N S (show i + 1 ≤ R from hi)
  rw [ms_sc, ← ms_rc_congr hZ] at h1
  omega
theorem st_square {K R C S np : Nat} {M P : Nat → Nat → Int32} {X Y f g w f2 pR pC pV vX pY f3 g3 w3 : Nat → Int32} (h : st_RC K R C S np M P X Y f g w f2 pR pC pV vX pY) (hs : ms_Sup K S R (ms_sq S M) f3 g3 w3) : st_RC K R C S np (ms_sq S M) P X Y f3 g3 w3 f pR pC pV vX pY := by
  obtain ⟨⟨hw, hM⟩, h2, h3, hp, hps, hX, hY⟩ := h
  refine ⟨⟨hw, fun i j hij => ms_sm_zero (fun t ht => ?_)⟩, hs, h2.1 0 (Nat.zero_le _), hp, hps, hX, hY⟩
  rcases hij with q | q
  · rw [hM i t (Or.inl q), Int32.zero_mul]
  · rw [hM t j (Or.inr q), Int32.mul_zero]
theorem st_turn {K R C S : Nat} {M P : Nat → Nat → Int32} {X Y f g w f2 pR pC pV vX pY f3 g3 w3 vX2 pY2 : Nat → Int32} (h : st_RC K R C S 0 M P X Y f g w f2 pR pC pV vX pY) (hs : ms_Sup K S C (fun i j => M j i) f3 g3 w3) (hv : ∀ j, j < S → vX2 j = nI 0) (hy : ∀ j, j < S → pY2 j = nI 0) : st_RC K C R S 0 (fun i j => M j i) P (fun _ => 0) (fun _ => 0) f3 g3 w3 f pR pC pV vX2 pY2 := by
  obtain ⟨⟨⟨w1, w2, w3, w4, w5, w6, w7, w8⟩, hM⟩, h2, h3, hp, hps, hX, hY⟩ := h
  exact ⟨⟨⟨w2, w1, w4, w3, w5, w6, w7, w8⟩, fun i j q => hM j i q.symm⟩, hs, h2.1 0 (Nat.zero_le _), fun p hp => absurd hp (Nat.not_lt_zero p), hps, fun j hj => hv j (by omega), fun i hi => hy i (by omega)⟩
theorem st_adds {K R C S np i0 j0 : Nat} {M P : Nat → Nat → Int32} {X Y f g w f2 pR pC pV vX pY : Nat → Int32} {v : Int32} (h : st_RC K R C S np M P X Y f g w f2 pR pC pV vX pY) (hi : i0 < R) (hj : j0 < C) (hn : np < K) : st_RC K R C S (np + 1) M (fun a b => if nI a = nI i0 ∧ nI b = nI j0 then P a b + v else P a b) X Y f g w f2 (upd pR np (nI i0)) (upd pC np (nI j0)) (upd pV np v) vX pY := by
  obtain ⟨⟨⟨w1, w2, w3, w4, w5, w6, w7, w8⟩, hM⟩, h2, h3, hp, hps, hX, hY⟩ := h
  refine ⟨⟨⟨w1, w2, w3, w4, w5, w6, w7, hn⟩, hM⟩, h2, h3, fun p hp2 => ?_, fun a b ha hb => ?_, hX, hY⟩
  · by_cases c : p = np
    · subst c
      exact ⟨i0, j0, hi, hj, pk_us, pk_us⟩
    · rw [pk_un c, pk_un c]
      exact hp p (by omega)
  · rw [st_ps_add (by omega) (by omega) ha hb]
    show (if nI a = nI i0 ∧ nI b = nI j0 then P a b + v else P a b) = _
    rw [hps a b ha hb]
theorem st_setx {K R C S np j0 : Nat} {M P : Nat → Nat → Int32} {X Y f g w f2 pR pC pV vX pY : Nat → Int32} {v : Int32} (h : st_RC K R C S np M P X Y f g w f2 pR pC pV vX pY) : st_RC K R C S np M P (upd X j0 v) Y f g w f2 pR pC pV (upd vX j0 v) pY := by
  obtain ⟨hw, h2, h3, hp, hps, hX, hY⟩ := h
  refine ⟨hw, h2, h3, hp, hps, fun j hj => ?_, hY⟩
  by_cases c : j = j0
  · subst c
    rw [pk_us, pk_us]
  · rw [pk_un c, pk_un c]
    exact hX j hj
theorem st_mul {K R C S np : Nat} {M P : Nat → Nat → Int32} {X Y f g w f2 pR pC pV vX pY pY2 : Nat → Int32} (h : st_RC K R C S np M P X Y f g w f2 pR pC pV vX pY) (hy : ∀ i, i < R → pY2 i = ms_sm (fun j => M i j * vX j) S) : st_RC K R C S np M P X (fun i => ms_sm (fun j => M i j * X j) C) f g w f2 pR pC pV vX pY2 := by
  obtain ⟨⟨⟨w1, w2, w3, w4, w5, w6, w7, w8⟩, hM⟩, h2, h3, hp, hps, hX, hY⟩ := h
  refine ⟨⟨⟨w1, w2, w3, w4, w5, w6, w7, w8⟩, hM⟩, h2, h3, hp, hps, hX, fun i hi => ?_⟩
  have e := ms_sm_wide (F := fun j => M i j * vX j) (a := C) (S - C) (fun t ht => by rw [hM i t (Or.inr ht), Int32.zero_mul])
  rw [show C + (S - C) = S by omega] at e
  rw [hy i hi, e]
  exact ms_sm_congr (fun t ht => by rw [hX t ht])
