section RSC
variable {p : Program} {l : Launch} {e : Env} {R : Room} {s : State} {m : MethodId} {args : Array Value} {below : List Frame} {meth : Method} {c : Code} {H : Heap} {locs : List Loc} {cells slots : Nat} {Q : State → Prop}
variable {cc : ByteArray} {pc : Nat} {ls : Array Slot} {rest : List Value}
theorem rv_ifne_t (hx : p.tables.exec = Jvm.exec) (hb : c.code = cc) {x : Int32} {off : Int} {tgt : Nat} (hdg : decode cc pc = .ok (.ifCond .ne off, 3)) (ht : (pc : Int) + off = (tgt : Int)) (h : ¬ x = 0) (kt : W p l e R s m args below meth c H locs cells slots Q (F0 m tgt ls rest)) : W p l e R s m args below meth c H locs cells slots Q (F0 m pc ls (.int x :: rest)) := lv_if_ne hx hb hdg ht (fun _ => kt) (fun q => absurd q h)
theorem rv_ifne_f (hx : p.tables.exec = Jvm.exec) (hb : c.code = cc) {x : Int32} {off : Int} {tgt : Nat} (hdg : decode cc pc = .ok (.ifCond .ne off, 3)) (ht : (pc : Int) + off = (tgt : Int)) (h : x = 0) (kf : W p l e R s m args below meth c H locs cells slots Q (F0 m (pc + 3) ls rest)) : W p l e R s m args below meth c H locs cells slots Q (F0 m pc ls (.int x :: rest)) := lv_if_ne hx hb hdg ht (fun q => absurd h q) (fun _ => kf)
end RSC
section ANS
variable {K R C S np : Nat} {M P : Nat → Nat → Int32} {X Y : Nat → Int32} {i j v : Int32}
theorem an_at_t {a b : Nat} (hi : a < R) (hj : b < C) (hR : R ≤ 60) (hC : C ≤ 60) : M a b = an_at ((K, R, C, S, np), M, P, X, Y) (nI a) (nI b) := by
  show _ = if (ms_in (nI a) R && ms_in (nI b) C) = true then M (nI a).toNatClampNeg (nI b).toNatClampNeg else 0
  rw [ms_in_nI hi (by omega), ms_in_nI hj (by omega), nI_clamp (by omega), nI_clamp (by omega)]
  rfl
theorem an_at_f (h : (ms_in i R && ms_in j C) = false) : nI 0 = an_at ((K, R, C, S, np), M, P, X, Y) i j := by
  show _ = if (ms_in i R && ms_in j C) = true then M i.toNatClampNeg j.toNatClampNeg else 0
  rw [h]
  exact ms_nz
theorem an_rs_t {a : Nat} (hi : a < R + 1) (hR : R ≤ 60) : nI (ms_sc M S a) = an_rowStart ((K, R, C, S, np), M, P, X, Y) (nI a) := by
  show _ = if ms_in (nI a) (R + 1) = true then nI (ms_sc M S (nI a).toNatClampNeg) else -1
  rw [ms_in_nI hi (by omega), nI_clamp (by omega)]
  rfl
theorem an_rs_f (h : ms_in i (R + 1) = false) : (-1 : Int32) = an_rowStart ((K, R, C, S, np), M, P, X, Y) i := by
  show _ = if ms_in i (R + 1) = true then nI (ms_sc M S i.toNatClampNeg) else -1
  rw [h]
  rfl
theorem an_y_t {a : Nat} (hi : a < R) (hR : R ≤ 60) : Y a = an_y ((K, R, C, S, np), M, P, X, Y) (nI a) := by
  show _ = if ms_in (nI a) R = true then Y (nI a).toNatClampNeg else 0
  rw [ms_in_nI hi (by omega), nI_clamp (by omega)]
  rfl
theorem an_y_f (h : ms_in i R = false) : nI 0 = an_y ((K, R, C, S, np), M, P, X, Y) i := by
  show _ = if ms_in i R = true then Y i.toNatClampNeg else 0
  rw [h]
  exact ms_nz
theorem an_add_t (h : (ms_in i R && ms_in j C && decide (np < K)) = true) : nI 1 = (an_add ((K, R, C, S, np), M, P, X, Y) i j).1 ∧ up_add ((K, R, C, S, np), M, P, X, Y) i j v = ((K, R, C, S, np + 1), M, (fun a b => if nI a = i ∧ nI b = j then P a b + v else P a b), X, Y) := ⟨ms_bI_t h, if_pos h⟩
theorem an_add_f (h : (ms_in i R && ms_in j C && decide (np < K)) = false) : nI 0 = (an_add ((K, R, C, S, np), M, P, X, Y) i j).1 ∧ up_add ((K, R, C, S, np), M, P, X, Y) i j v = ((K, R, C, S, np), M, P, X, Y) := ⟨ms_bI_f h, if_neg (by rw [h]; decide)⟩
theorem an_add_c1 (h : (ms_in i R && ms_in j C) = false) : (ms_in i R && ms_in j C && decide (np < K)) = false := by rw [h]; rfl
theorem an_add_c2 (h : K ≤ np) : (ms_in i R && ms_in j C && decide (np < K)) = false := by rw [decide_eq_false (by omega)]; simp
theorem an_add_c3 {a b : Nat} (hi : a < R) (hj : b < C) (hR : R ≤ 60) (hC : C ≤ 60) (h : np < K) : (ms_in (nI a) R && ms_in (nI b) C && decide (np < K)) = true := by rw [ms_in_nI hi (by omega), ms_in_nI hj (by omega), decide_eq_true h]; rfl
theorem an_setX_t {b : Nat} (hj : b < C) (hC : C ≤ 60) : nI 1 = an_setX ((K, R, C, S, np), M, P, X, Y) (nI b) ∧ up_setX ((K, R, C, S, np), M, P, X, Y) (nI b) v = ((K, R, C, S, np), M, P, upd X b v, Y) := by
  refine ⟨ms_bI_t (ms_in_nI hj (by omega)), ?_⟩
  show (if ms_in (nI b) C = true then ((K, R, C, S, np), M, P, upd X (nI b).toNatClampNeg v, Y) else ((K, R, C, S, np), M, P, X, Y)) = _
  rw [if_pos (ms_in_nI hj (by omega)), nI_clamp (by omega)]
theorem an_setX_f (h : ms_in j C = false) : nI 0 = an_setX ((K, R, C, S, np), M, P, X, Y) j ∧ up_setX ((K, R, C, S, np), M, P, X, Y) j v = ((K, R, C, S, np), M, P, X, Y) := ⟨ms_bI_f h, if_neg (by rw [h]; decide)⟩
theorem an_build_t (h : ms_sc (ms_pl R C M P) S R ≤ K) : nI (ms_sc (ms_pl R C M P) S R) = an_build ((K, R, C, S, np), M, P, X, Y) ∧ up_build ((K, R, C, S, np), M, P, X, Y) = ((K, R, C, S, 0), ms_pl R C M P, (fun _ _ => 0), X, Y) := ⟨(if_pos h).symm, if_pos h⟩
theorem an_build_f (h : ¬ ms_sc (ms_pl R C M P) S R ≤ K) : (-1 : Int32) = an_build ((K, R, C, S, np), M, P, X, Y) ∧ up_build ((K, R, C, S, np), M, P, X, Y) = ((K, R, C, S, np), M, P, X, Y) := ⟨(if_neg h).symm, if_neg h⟩
theorem an_square_n (h : ¬ R = C) : (-2 : Int32) = an_square ((K, R, C, S, np), M, P, X, Y) ∧ up_square ((K, R, C, S, np), M, P, X, Y) = ((K, R, C, S, np), M, P, X, Y) := ⟨(if_neg h).symm, if_neg h⟩
theorem an_square_t (e : R = C) (h : ms_sc (ms_sq S M) S R ≤ K) : nI (ms_sc (ms_sq S M) S R) = an_square ((K, R, C, S, np), M, P, X, Y) ∧ up_square ((K, R, C, S, np), M, P, X, Y) = ((K, R, C, S, np), ms_sq S M, P, X, Y) := ⟨((if_pos e).trans (if_pos h)).symm, (if_pos e).trans (if_pos h)⟩
theorem an_square_f (e : R = C) (h : ¬ ms_sc (ms_sq S M) S R ≤ K) : (-1 : Int32) = an_square ((K, R, C, S, np), M, P, X, Y) ∧ up_square ((K, R, C, S, np), M, P, X, Y) = ((K, R, C, S, np), M, P, X, Y) := ⟨((if_pos e).trans (if_neg h)).symm, (if_pos e).trans (if_neg h)⟩
theorem an_turn_t (h : np = 0) : nI 1 = an_turn ((K, R, C, S, np), M, P, X, Y) ∧ up_turn ((K, R, C, S, np), M, P, X, Y) = ((K, C, R, S, np), (fun i j => M j i), P, (fun _ => 0), fun _ => 0) := ⟨by rw [ms_n1]; exact (if_pos h).symm, if_pos h⟩
theorem an_turn_f (h : ¬ np = 0) : nI 0 = an_turn ((K, R, C, S, np), M, P, X, Y) ∧ up_turn ((K, R, C, S, np), M, P, X, Y) = ((K, R, C, S, np), M, P, X, Y) := ⟨by rw [ms_nz]; exact (if_neg h).symm, if_neg h⟩
theorem an_colAt_g {f g w : Nat → Int32} (hs : ms_Sup K S R M f g w) {q : Nat} (hq : q < ms_sc M S R) : an_colAt ((K, R, C, S, np), M, P, X, Y) (nI q) (g q) := by
  obtain ⟨i, j, h1, h2, h3, h4⟩ := ms_sc_at M S R q hq
  subst h4
  exact Or.inl ⟨i, j, h1, h2, h3, rfl, (hs.2.2 i j h1 h2 h3).1⟩
end ANS
theorem ms_out3 {x : Int32} (h0 : ¬ x = 0) (h1 : ¬ x = 1) (h2 : ¬ x = 2) (h3 : ¬ x = 3) : x.toInt < 0 ∨ 3 < x.toInt := by
  rw [ms_eq] at h0 h1 h2 h3
  have z0 : (0 : Int32).toInt = 0 := by decide
  have z1 : (1 : Int32).toInt = 1 := by decide
  have z2 : (2 : Int32).toInt = 2 := by decide
  have z3 : (3 : Int32).toInt = 3 := by decide
  omega
