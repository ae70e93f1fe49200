abbrev rm_S : Room := { frames := 1, cells := 3, slots := 2100, locals := 40 }
abbrev rm_C : Room := { frames := 2, cells := 14, slots := 8000, locals := 80 }
abbrev rm_M : Room := { frames := 1, cells := 5, slots := 11000, locals := 40 }
section RSE
variable {p : Program} {l : Launch} {e : Env} {R : Room} {s : State} {m : MethodId} {args : Array Value} {below : List Frame} {meth : Method} {c : Code} {H : Heap} {locs : List Loc} {cells slots : Nat} {Q : State → Prop}
variable {cc : ByteArray} {pc : Nat} {ls : Array Slot} {rest : List Value} {D : va_G} {ws : va_W} {A : Nat → Prop} {H0 : Heap} {cI : ClassId}
theorem rs_newa {N : Nat} (hx : p.tables.exec = Jvm.exec) (hb : c.code = cc) (harr : (Cond.arrayClass .int).before args s = true) (hK : va_K D vwCl [(cI, .int)] s) (hP : va_P D vwCl ws H) (hD : va_D A ws) (hS : va_S A H0 H locs) (hA : ∀ q, H0.size ≤ q → A q) (hN : N ≤ 4000) (hcells : cells + 1 ≤ R.cells) (hslots : slots + N ≤ R.slots) (hdg : decode cc pc = .ok (.newarray .int, 2))
    (kk : ∀ (q : Nat) (H1 : Heap), va_P D vwCl (ws ++ [(q, .inl (cI, N, .inl (fun _ => 0)))]) H1 → va_D A (ws ++ [(q, .inl (cI, N, .inl (fun _ => 0)))]) → va_S A H0 H1 locs → W p l e R s m args below meth c H1 locs (cells + 1) (slots + N) Q (F0 m (pc + 2) ls (.ref q :: rest))) : W p l e R s m args below meth c H locs cells slots Q (F0 m pc ls (.int (nI N) :: rest)) := by
  refine va_newa (atype := .int) (ty := .int) (N' := N) (a0 := (N, .inl (fun _ => 0))) hx hb harr rfl hK hP hD hS hA (fun cA => rfl) (nI_pos (by omega)) (nI_clamp (by omega)) (show N * 4 ≤ 536870912 by omega) hcells hslots hdg (fun q cA H1 hK1 hP1 hD1 hS1 => ?_)
  have h1 : s.vm.findClass ("[" ++ FieldType.int.toString) = some cI := (hK1.2 0 (cI, .int) rfl).2
  have h2 : s.vm.findClass ("[" ++ FieldType.int.toString) = some cA := (hK1.2 1 (cA, .int) rfl).2
  have e : cI = cA := Option.some.inj (h1.symm.trans h2)
  subst e
  exact kk q H1 hP1 hD1 hS1
end RSE
def st_0 (r c k : Int32) : st_A := ((ms_cl k 1000, ms_cl r 60, ms_cl c 60, max (ms_cl r 60) (ms_cl c 60), 0), (fun _ _ => 0), (fun _ _ => 0), (fun _ => 0), fun _ => 0)
theorem ms_rc_0 : ∀ n, ms_rc (fun _ => 0) n = 0
  | 0 => rfl
  | n + 1 => by rw [ms_rc, ms_rc_0 n, if_pos rfl]
theorem ms_sc_0 (S : Nat) : ∀ n, ms_sc (fun _ _ => 0) S n = 0
  | 0 => rfl
  | n + 1 => by rw [ms_sc, ms_sc_0 S n, ms_rc_0]
theorem st_wf0 (r c k : Int32) : st_WF (ms_cl k 1000) (ms_cl r 60) (ms_cl c 60) (max (ms_cl r 60) (ms_cl c 60)) 0 (fun _ _ => 0) := by
  have h1 := ms_cl_b (x := r) (N := 60) (by omega)
  have h2 := ms_cl_b (x := c) (N := 60) (by omega)
  have h3 := ms_cl_b (x := k) (N := 1000) (by omega)
  exact ⟨⟨by omega, by omega, by omega, by omega, by omega, by omega, by omega, by omega⟩, fun _ _ _ => rfl⟩
theorem st_rc0 (r c k : Int32) : st_RC (ms_cl k 1000) (ms_cl r 60) (ms_cl c 60) (max (ms_cl r 60) (ms_cl c 60)) 0 (fun _ _ => 0) (fun _ _ => 0) (fun _ => 0) (fun _ => 0) (fun _ => 0) (fun _ => 0) (fun _ => 0) (fun _ => 0) (fun _ => 0) (fun _ => 0) (fun _ => 0) (fun _ => 0) (fun _ => 0) :=
  ⟨st_wf0 r c k, ⟨fun i _ => by rw [ms_sc_0]; rfl, by rw [ms_sc_0]; exact Nat.zero_le _, fun i j _ _ h => absurd rfl h⟩, rfl, fun p hp => absurd hp (Nat.not_lt_zero p), fun _ _ _ _ => rfl, fun _ _ => rfl, fun _ _ => rfl⟩
theorem st_rm0 (r c k : Int32) : st_RM (ms_cl k 1000) (ms_cl r 60) (ms_cl c 60) (max (ms_cl r 60) (ms_cl c 60)) 0 (fun _ _ => 0) (fun _ _ => 0) (fun _ => 0) (fun _ => 0) (fun _ => 0) (fun _ => 0) (fun _ => 0) (fun _ => 0) :=
  ⟨st_wf0 r c k, fun _ _ _ _ => rfl, fun _ _ _ _ => rfl, fun _ _ _ _ _ => rfl, fun _ _ => rfl, fun _ _ => rfl⟩
