/-! the reference's table -/
theorem ms_grid {O : Nat → Int32} {G : Nat → Nat → Int32} {i j C : Nat} {x : Int32} (hC : C ≤ 60) (hj : j < C) (h1 : ∀ a b, a < i → b < C → O (60 * a + b) = G a b) (h2 : ∀ b, b < j → O (60 * i + b) = G i b) (hx : x = G i j) : (∀ a b, a < i → b < C → upd O (60 * i + j) x (60 * a + b) = G a b) ∧ ∀ b, b < j + 1 → upd O (60 * i + j) x (60 * i + b) = G i b := by
  refine ⟨fun a b ha hb => ?_, fun b hb => ?_⟩
  · rw [pk_un (by omega)]
    exact h1 a b ha hb
  · by_cases e : b = j
    · subst e
      rw [pk_us, hx]
    · rw [pk_un (by omega)]
      exact h2 b (by omega)
theorem ms_gridrow {O : Nat → Int32} {G : Nat → Nat → Int32} {i j C : Nat} (hj : j = C) (h1 : ∀ a b, a < i → b < C → O (60 * a + b) = G a b) (h2 : ∀ b, b < j → O (60 * i + b) = G i b) : ∀ a b, a < i + 1 → b < C → O (60 * a + b) = G a b := by
  intro a b ha hb
  by_cases e : a = i
  · subst e
    exact h2 b (by omega)
  · exact h1 a b (by omega) hb
theorem ms_gridT {O : Nat → Int32} {G : Nat → Nat → Int32} {i j C : Nat} {x : Int32} (hi : i < 60) (hj : j < C) (h1 : ∀ a b, a < i → b < C → O (60 * b + a) = G a b) (h2 : ∀ b, b < j → O (60 * b + i) = G i b) (hx : x = G i j) : (∀ a b, a < i → b < C → upd O (60 * j + i) x (60 * b + a) = G a b) ∧ ∀ b, b < j + 1 → upd O (60 * j + i) x (60 * b + i) = G i b := by
  refine ⟨fun a b ha hb => ?_, fun b hb => ?_⟩
  · rw [pk_un (by omega)]
    exact h1 a b ha hb
  · by_cases e : b = j
    · subst e
      rw [pk_us, hx]
    · rw [pk_un (by omega)]
      exact h2 b (by omega)
theorem ms_gridTrow {O : Nat → Int32} {G : Nat → Nat → Int32} {i j C : Nat} (hj : j = C) (h1 : ∀ a b, a < i → b < C → O (60 * b + a) = G a b) (h2 : ∀ b, b < j → O (60 * b + i) = G i b) : ∀ a b, a < i + 1 → b < C → O (60 * b + a) = G a b := by
  intro a b ha hb
  by_cases e : a = i
  · subst e
    exact h2 b (by omega)
  · exact h1 a b (by omega) hb
theorem ms_sc60 {M : Nat → Nat → Int32} {C R : Nat} (hR : R ≤ 60) (hC : C ≤ 60) : ms_sc M C R ≤ 3600 := Nat.le_trans (ms_sc_le M C R) (Nat.mul_le_mul hR hC)
theorem ms_nI_m1 {x : Nat} (h : x < 2 ^ 31) : ¬ nI x = -1 := by
  rw [ms_eq, nI_toInt h, show (-1 : Int32).toInt = -1 by decide]
  omega
/-- the count of a table is the matrix's -/
theorem st_cnt {N : Nat → Nat → Int32} {T : Nat → Int32} {R C S u : Nat} (hC : C ≤ S) (hu : u ≤ R) (h0 : ∀ i j, R ≤ i ∨ C ≤ j → N i j = 0) (hT : ∀ i j, i < R → j < C → T (60 * i + j) = N i j) : ms_sc (fun i j => T (60 * i + j)) C u = ms_sc N S u := by
  rw [ms_sc_wide hC (fun i j hj => h0 i j (Or.inr hj)) u]
  exact ms_sc_congr (fun i j hi hj => hT i j (by omega) hj)
theorem st_madd {K R C S np i0 j0 : Nat} {M P : Nat → Nat → Int32} {X Y T E xX yY : Nat → Int32} {v : Int32} (h : st_RM K R C S np M P X Y T E xX yY) (hi : i0 < R) (hj : j0 < C) (hn : np < K) : st_RM K R C S (np + 1) M (fun a b => if nI a = nI i0 ∧ nI b = nI j0 then P a b + v else P a b) X Y T (upd E (60 * i0 + j0) (E (60 * i0 + j0) + v)) xX yY := by
  obtain ⟨⟨⟨w1, w2, w3, w4, w5, w6, w7, w8⟩, hM⟩, hT, hE, h0, hX, hY⟩ := h
  refine ⟨⟨⟨w1, w2, w3, w4, w5, w6, w7, hn⟩, hM⟩, hT, fun a b ha hb => ?_, fun q => absurd q (Nat.succ_ne_zero np), hX, hY⟩
  show _ = if nI a = nI i0 ∧ nI b = nI j0 then P a b + v else P a b
  by_cases c : a = i0 ∧ b = j0
  · obtain ⟨c1, c2⟩ := c
    subst c1; subst c2
    rw [pk_us, if_pos ⟨rfl, rfl⟩, hE a b ha hb]
  · have c2 : ¬ (nI a = nI i0 ∧ nI b = nI j0) := fun q => c ⟨(nI_eq (by omega) (by omega)).mp q.1, (nI_eq (by omega) (by omega)).mp q.2⟩
    rw [if_neg c2, pk_un (fun q => c (by omega)), hE a b ha hb]
theorem st_mbuild {K R C S np : Nat} {M P : Nat → Nat → Int32} {X Y T E xX yY O E1 : Nat → Int32} (h : st_RM K R C S np M P X Y T E xX yY) (hO : ∀ a b, a < R → b < C → O (60 * a + b) = ms_pl R C M P a b) (hE1 : ∀ t, t < 3600 → E1 t = nI 0) : st_RM K R C S 0 (ms_pl R C M P) (fun _ _ => 0) X Y O E1 xX yY := by
  obtain ⟨⟨⟨w1, w2, w3, w4, w5, w6, w7, w8⟩, hM⟩, hT, hE, h0, hX, hY⟩ := h
  exact ⟨⟨⟨w1, w2, w3, w4, w5, w6, w7, Nat.zero_le _⟩, st_pl0⟩, hO, fun a b ha hb => (hE1 _ (by omega)).trans ms_nz, fun _ _ _ _ _ => rfl, hX, hY⟩
theorem st_msquare {K R C S np : Nat} {M P : Nat → Nat → Int32} {X Y T E xX yY O : Nat → Int32} (h : st_RM K R C S np M P X Y T E xX yY) (hO : ∀ a b, a < R → b < C → O (60 * a + b) = ms_sq S M a b) : st_RM K R C S np (ms_sq S M) P X Y O E xX yY := by
  obtain ⟨⟨hw, hM⟩, hT, hE, h0, hX, hY⟩ := h
  refine ⟨⟨hw, fun i j hij => ms_sm_zero (fun t ht => ?_)⟩, hO, hE, h0, hX, hY⟩
  rcases hij with q | q
  · rw [hM i t (Or.inl q), Int32.zero_mul]
  · rw [hM t j (Or.inr q), Int32.mul_zero]
theorem st_sqwide {R C S i j : Nat} {M : Nat → Nat → Int32} (hC : C ≤ S) (hM : ∀ i j, R ≤ i ∨ C ≤ j → M i j = 0) : ms_sm (fun k => M i k * M k j) C = ms_sq S M i j := by
  have e := ms_sm_wide (F := fun k => M i k * M k j) (a := C) (S - C) (fun t ht => by rw [hM i t (Or.inr ht), Int32.zero_mul])
  rw [show C + (S - C) = S by omega] at e
  exact e.symm
theorem st_sq0 {R C S : Nat} {M : Nat → Nat → Int32} (hM : ∀ i j, R ≤ i ∨ C ≤ j → M i j = 0) : ∀ i j, R ≤ i ∨ C ≤ j → ms_sq S M i j = 0 := by
  intro i j hij
  refine ms_sm_zero (fun t ht => ?_)
  rcases hij with q | q
  · rw [hM i t (Or.inl q), Int32.zero_mul]
  · rw [hM t j (Or.inr q), Int32.mul_zero]
theorem st_mturn {K R C S : Nat} {M P : Nat → Nat → Int32} {X Y T E xX yY O x1 y1 : Nat → Int32} (h : st_RM K R C S 0 M P X Y T E xX yY) (hO : ∀ a b, a < R → b < C → O (60 * b + a) = M a b) (hx : ∀ t, t < 60 → x1 t = nI 0) (hy : ∀ t, t < 60 → y1 t = nI 0) : st_RM K C R S 0 (fun i j => M j i) P (fun _ => 0) (fun _ => 0) O E x1 y1 := by
  obtain ⟨⟨⟨w1, w2, w3, w4, w5, w6, w7, w8⟩, hM⟩, hT, hE, h0, hX, hY⟩ := h
  exact ⟨⟨⟨w2, w1, w4, w3, w5, w6, w7, w8⟩, fun i j q => hM j i q.symm⟩, fun i j hi hj => hO j i hj hi, hE, h0, fun j hj => (hx j (by omega)).trans ms_nz, fun i hi => (hy i (by omega)).trans ms_nz⟩
theorem st_msetx {K R C S np j0 : Nat} {M P : Nat → Nat → Int32} {X Y T E xX yY : Nat → Int32} {v : Int32} (h : st_RM K R C S np M P X Y T E xX yY) : st_RM K R C S np M P (upd X j0 v) Y T E (upd xX j0 v) yY := by
  obtain ⟨hw, hT, hE, h0, hX, hY⟩ := h
  refine ⟨hw, hT, hE, h0, fun j hj => ?_, hY⟩
  by_cases c : j = j0
  · subst c
    rw [pk_us, pk_us]
  · rw [pk_un c, pk_un c]
    exact hX j hj
theorem st_mmul {K R C S np : Nat} {M P : Nat → Nat → Int32} {X Y T E xX yY y1 : Nat → Int32} (h : st_RM K R C S np M P X Y T E xX yY) (hy : ∀ i, i < R → y1 i = ms_sm (fun j => M i j * X j) C) : st_RM K R C S np M P X (fun i => ms_sm (fun j => M i j * X j) C) T E xX y1 := ⟨h.1, h.2.1, h.2.2.1, h.2.2.2.1, h.2.2.2.2.1, hy⟩
theorem st_rowend {R C S i j : Nat} {M : Nat → Nat → Int32} (hC : C ≤ S) (hj : j = C) (hM : ∀ i j, R ≤ i ∨ C ≤ j → M i j = 0) : ms_sc M S i + ms_rc (M i) j = ms_sc M S (i + 1) := by
  subst hj
  have e := ms_rc_wide (p := M i) (a := j) (S - j) (fun t ht => hM i t (Or.inr ht))
  rw [show j + (S - j) = S by omega] at e
  rw [ms_sc, e]
theorem st_notany {k : Int32} {q : Nat} (hq : q < 2 ^ 31) (h : ∀ t, t < q → ¬ k = nI t) : k < 0 ∨ nI q ≤ k := by
  rcases pk_ix k hq with c | c | ⟨j, c1, c2⟩
  · exact Or.inl c
  · exact Or.inr c
  · exact absurd c2 (h j c1)
section RSD
variable {p : Program} {l : Launch} {e : Env} {R : Room} {s : State} {m : MethodId} {args : Array Value} {below : List Frame} {meth : Method} {c : Code} {H : Heap} {locs : List Loc} {cells slots : Nat} {Q : State → Prop}
variable {cc : ByteArray} {pc : Nat} {ls : Array Slot} {rest : List Value}
theorem rv_icne_t (hx : p.tables.exec = Jvm.exec) (hb : c.code = cc) {x y : Int32} {off : Int} {tgt : Nat} (hdg : decode cc pc = .ok (.if_icmp .ne off, 3)) (ht : (pc : Int) + off = (tgt : Int)) (h : ¬ x = y) (kt : W p l e R s m args below meth c H locs cells slots Q (F0 m tgt ls rest)) : W p l e R s m args below meth c H locs cells slots Q (F0 m pc ls (.int y :: .int x :: rest)) := lv_icmp_ne hx hb hdg ht (fun _ => kt) (fun q => absurd q h)
theorem rv_icne_f (hx : p.tables.exec = Jvm.exec) (hb : c.code = cc) {x y : Int32} {off : Int} {tgt : Nat} (hdg : decode cc pc = .ok (.if_icmp .ne off, 3)) (ht : (pc : Int) + off = (tgt : Int)) (h : x = y) (kf : W p l e R s m args below meth c H locs cells slots Q (F0 m (pc + 3) ls rest)) : W p l e R s m args below meth c H locs cells slots Q (F0 m pc ls (.int y :: .int x :: rest)) := lv_icmp_ne hx hb hdg ht (fun q => absurd h q) (fun _ => kf)
end RSD
