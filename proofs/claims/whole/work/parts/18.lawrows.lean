section LWA
variable {p : Program} {l : Launch} {e : Env} {R : Room} {s : State} {m : MethodId} {args : Array Value} {below : List Frame} {meth : Method} {c : Code} {H : Heap} {locs : List Loc} {cells slots : Nat} {Q : State → Prop}
variable {cc : ByteArray} {pc : Nat} {ls : Array Slot} {rest : List Value} {D : va_G} {tys : List (ClassId × FieldType)} {A : Nat → Prop}
variable {nL maxL index n : Nat} {Ts wsY : List Cond} {own C : String} {y : MethodName} {bytes : ByteArray} {ret : Option FieldType} {rm : Room} {As st : List Value} {b : Addr} {WC WR : va_W} {ci : Nat} {T : u_T} {N : Nat} {mc ms : Nat}
theorem rs_apart (hD : va_D A (WC ++ WR)) {i j : Nat} {x q : Nat × va_E} (h1 : WC[i]? = some x) (h2 : WR[j]? = some q) : x.1 ≠ q.1 := by
  intro h
  have hl : i < WC.length := (List.getElem?_eq_some_iff.mp h1).1
  have e1 : (WC ++ WR)[i]? = some x := by rw [List.getElem?_append_left hl]; exact h1
  have e2 : (WC ++ WR)[WC.length + j]? = some q := by rw [List.getElem?_append_right (by omega), show WC.length + j - WC.length = j by omega]; exact h2
  have := hD.1 i (WC.length + j) x q e1 e2 h
  omega
theorem rs_left (hD : va_D A (WC ++ WR)) : va_D A WC := by
  refine ⟨fun i j x y h1 h2 h => ?_, fun k q h => ?_⟩
  · have l1 : i < WC.length := (List.getElem?_eq_some_iff.mp h1).1
    have l2 : j < WC.length := (List.getElem?_eq_some_iff.mp h2).1
    exact hD.1 i j x y (by rw [List.getElem?_append_left l1]; exact h1) (by rw [List.getElem?_append_left l2]; exact h2) h
  · have l1 : k < WC.length := (List.getElem?_eq_some_iff.mp h).1
    exact hD.2 k q (by rw [List.getElem?_append_left l1]; exact h)
theorem rs_swap (hD : va_D A (WC ++ WR)) : va_D A (WR ++ WC) := va_D.swap (a := []) hD
theorem rs_joinL {w1 : va_W} {H1 : Heap} (hPR : va_P D vwCl WR H) (hD : va_D A (WC ++ WR)) (hk : ∀ q : Nat, q < H.size → ¬ va_A WC H.size q → H1[q]? = H[q]?) (hF : ∀ q, va_A WC H.size q → A q) (hD1 : va_D (va_A WC H.size) w1) : va_P D vwCl WR H1 ∧ va_D A (w1 ++ WR) := by
  have key : ∀ (k : Nat) (q : Nat × va_E), WR[k]? = some q → ¬ va_A WC H.size q.1 := by
    intro k q hq h
    rcases h with ⟨i, e, hi⟩ | h
    · exact rs_apart hD hi hq rfl
    · have := (hPR k q hq).lt
      omega
  refine ⟨hPR.kept (fun k q hq => hk q.1 (hPR k q hq).lt (key k q hq)), ?_⟩
  refine va_D.app (hD1.weaken (fun k q _ h => hF _ h)) (rs_left (rs_swap hD)) (fun i j x q h1 h2 h => ?_)
  exact key j q h2 (h ▸ hD1.2 i x h1)
/-- a read-only call, the callee's world beside another one -/
theorem rs_LR {post : Int32 → Prop} (S : CallFix p m c cc nL s args Ts own) (hsz : ls.size = nL) (hM : MetR l y wsY rm D tys (.ref b :: As) WC post) (cw : CallW R s args own C index y bytes maxL ret wsY rm 0 0 n) (hK : va_K D vwCl tys s) (hP : va_P D vwCl WC H) (hc : vwCl[ci]? = some (C, T, N)) (he : ∃ fs, WC[0]? = some (b, .inr (ci, fs))) (hn : As.length = n) (hst : st = As.reverse ++ .ref b :: rest) (hW : (rest.map fun v => v.category).sum ≤ 8) (hdg : decode cc pc = .ok (.invokevirtual index, 3)) (hcl : cells ≤ R.cells) (hsl : slots ≤ R.slots)
    (kk : ∀ r : Int32, post r → W p l e R s m args below meth c H locs cells slots Q (F0 m (pc + 3) ls (.int r :: rest))) : W p l e R s m args below meth c H locs cells slots Q (F0 m pc ls st) := by
  subst hst
  obtain ⟨fs, he⟩ := he
  exact vp_callSi (W.runV S hM cw ⟨rs_blR, va_recv hK hP hc he, fun U hU hW => ⟨rfl, by rw [hU]; exact hP, va_K.moved hW.alike hK⟩⟩ rfl hn hsz rfl (lv_room hW) hdg ⟨hcl, hsl⟩) kk
/-- a call that may write, the callee's world beside another one -/
theorem rs_LI {S : Type} {post : Int32 → S → Prop} {w1 : S → va_W} (F : CallFix p m c cc nL s args Ts own) (hsz : ls.size = nL) (hM : MetI l y wsY rm D tys (.ref b :: As) WC post w1 mc ms) (cw : CallW R s args own C index y bytes maxL ret wsY rm mc ms n) (hK : va_K D vwCl tys s) (hP : va_P D vwCl WC H) (hPR : va_P D vwCl WR H) (hD : va_D A (WC ++ WR)) (hS : va_S A s.heap H locs) (hA : ∀ q, s.heap.size ≤ q → A q) (hc : vwCl[ci]? = some (C, T, N)) (he : ∃ fs, WC[0]? = some (b, .inr (ci, fs))) (hn : As.length = n) (hst : st = As.reverse ++ .ref b :: rest) (hW : (rest.map fun v => v.category).sum ≤ 8) (hdg : decode cc pc = .ok (.invokevirtual index, 3)) (hcl : cells + mc ≤ R.cells) (hsl : slots + ms ≤ R.slots)
    (kk : ∀ (r : Int32) (u : S) (H1 : Heap) (locs1 : List Loc), post r u → va_P D vwCl (w1 u) H1 → va_P D vwCl WR H1 → va_D A (w1 u ++ WR) → va_S A s.heap H1 locs1 → W p l e R s m args below meth c H1 locs1 (cells + mc) (slots + ms) Q (F0 m (pc + 3) ls (.int r :: rest))) : W p l e R s m args below meth c H locs cells slots Q (F0 m pc ls st) := by
  subst hst
  obtain ⟨fs, he⟩ := he
  have hDc := rs_left hD
  have hFc : ∀ q, va_A WC H.size q → A q := fun q h => by
    rcases h with ⟨k, e, hk⟩ | h
    · exact hDc.2 k _ hk
    · exact hA q (Nat.le_trans hS.1 h)
  refine va_calli (va_runV F (hM H.size) cw ⟨rs_blI, va_recv hK hP hc he, fun U hU hW => ⟨rfl, by rw [hU], by rw [hU]; exact hP, va_K.moved hW.alike hK, hDc.weaken (fun _ _ _ _ => trivial)⟩⟩ rfl hn hsz rfl (lv_room hW) hdg ⟨hcl, hsl⟩) hS (fun q _ h => hFc q h) hFc (fun r u t H1 locs1 ht hvm hw hB hz1 hk1 hS1 => ?_)
  obtain ⟨hP1, hK1, hD1⟩ := hB
  rw [ht] at hP1
  obtain ⟨hP2, hD2⟩ := rs_joinL hPR hD hk1 hFc hD1
  exact kk r u H1 locs1 hw hP1 hP2 hD2 hS1
/-- a constructor, the same -/
theorem rs_LN {S : Type} {post : S → Prop} {w1 : S → va_W} (F : CallFix p m c cc nL s args Ts own) (hsz : ls.size = nL) (hM : MetV l y wsY rm D tys (.ref b :: As) WC post w1 mc ms) (cw : CallB R s args own index y bytes maxL none wsY rm mc ms n ∧ y.name = "<init>" ∧ (Cond.instanceMethod y).before args s = true) (hK : va_K D vwCl tys s) (hP : va_P D vwCl WC H) (hPR : va_P D vwCl WR H) (hD : va_D A (WC ++ WR)) (hS : va_S A s.heap H locs) (hA : ∀ q, s.heap.size ≤ q → A q) (hn : As.length = n) (hst : st = As.reverse ++ .ref b :: rest) (hW : (rest.map fun v => v.category).sum ≤ 8) (hdg : decode cc pc = .ok (.invokespecial index, 3)) (hcl : cells + mc ≤ R.cells) (hsl : slots + ms ≤ R.slots)
    (kk : ∀ (u : S) (H1 : Heap) (locs1 : List Loc), post u → va_P D vwCl (w1 u) H1 → va_P D vwCl WR H1 → va_D A (w1 u ++ WR) → va_S A s.heap H1 locs1 → W p l e R s m args below meth c H1 locs1 (cells + mc) (slots + ms) Q (F0 m (pc + 3) ls rest)) : W p l e R s m args below meth c H locs cells slots Q (F0 m pc ls st) := by
  subst hst
  have hDc := rs_left hD
  have hFc : ∀ q, va_A WC H.size q → A q := fun q h => by
    rcases h with ⟨k, e, hk⟩ | h
    · exact hDc.2 k _ hk
    · exact hA q (Nat.le_trans hS.1 h)
  refine va_callv (va_runI F (hM H.size) cw ⟨rs_blI, fun U hU hW => ⟨rfl, by rw [hU], by rw [hU]; exact hP, va_K.moved hW.alike hK, hDc.weaken (fun _ _ _ _ => trivial)⟩⟩ rfl hn hsz rfl (lv_room hW) hdg ⟨hcl, hsl⟩) hS (fun q _ h => hFc q h) hFc (fun u t H1 locs1 ht hvm hw hB hz1 hk1 hS1 => ?_)
  obtain ⟨hP1, hK1, hD1⟩ := hB
  rw [ht] at hP1
  obtain ⟨hP2, hD2⟩ := rs_joinL hPR hD hk1 hFc hD1
  exact kk u H1 locs1 hw hP1 hP2 hD2 hS1
theorem rs_sld {L : Nat} {xs : Nat → Int32} (hx : p.tables.exec = Jvm.exec) (hb : c.code = cc) (hX : va_X b L xs s s.heap) (hbl : b < s.heap.size) (hbA : ¬ A b) (hS : va_S A s.heap H locs) {j : Nat} (hj : j < L) (hL : L < 2 ^ 31) (hdg : decode cc pc = .ok (.iaload, 1)) (kk : W p l e R s m args below meth c H locs cells slots Q (F0 m (pc + 1) ls (.int (xs j) :: rest))) : W p l e R s m args below meth c H locs cells slots Q (F0 m pc ls (.int (nI j) :: .ref b :: rest)) :=
  va_sld hx hb hX hbl hbA hS (vp_in_nI hj hL) hdg (by rw [nI_clamp (Nat.lt_trans hj hL)]; exact kk)
theorem rv_iceq_t (hx : p.tables.exec = Jvm.exec) (hb : c.code = cc) {x y : Int32} {off : Int} {tgt : Nat} (hdg : decode cc pc = .ok (.if_icmp .eq off, 3)) (ht : (pc : Int) + off = (tgt : Int)) (h : x = y) (kt : W p l e R s m args below meth c H locs cells slots Q (F0 m tgt ls rest)) : W p l e R s m args below meth c H locs cells slots Q (F0 m pc ls (.int y :: .int x :: rest)) := lv_icmp_eq hx hb hdg ht (fun _ => kt) (fun q => absurd h q)
end LWA
def lw_ce (xs : Nat → Int32) (L k : Nat) : Int32 := if k < L then xs k else 0
set_option maxHeartbeats 4000000 in
set_option maxRecDepth 100000 in
/-- cell(s, k): the k-th int of the script, 0 behind its end -/
theorem c_cell (l : Launch) (b L k : Nat) (xs : Nat → Int32) (hL : L < 2 ^ 31) (hk : k < 2 ^ 31) : Met l yL_cell wsL_cell rm_0 (va_Pc [.ref b, .int (nI k)] (fun U => va_X b L xs U U.heap)) (vp_Si (fun r => r = lw_ce xs L k)) 0 0 (fun _ => False) := by
  refine Met.ofW (cc := cL_cell) (maxL := 2) (ret := some .int) (by decide) rfl ?_
  intro p e s m args below meth c s₁ B hml hv
  obtain ⟨rfl, hX⟩ := hv
  have hx := B.exec
  have hb := B.bytes
  have hr := B.returns
  have hlocks := B.notSynchronized
  have hbl : b < s.heap.size := by
    obtain ⟨scr, h1, -⟩ := hX
    exact (Array.getElem?_eq_some_iff.mp h1).1
  have hS : va_S (fun _ => False) s.heap s.heap [] := va_S.rf
  have hl := lv_entry [.ref b, .int (nI k)] (n := 2) (Nat.le_of_ble_eq_true rfl)
  rw [lg_entry_eq]
  generalize (lg_sl [.ref b, .int (nI k)] ++ List.replicate (2 - (lg_sl [.ref b, .int (nI k)]).length) Slot.unset).toArray = ls at hl ⊢
  have hl : lv_has ls 2 [(0, .ref b), (1, .int (nI k))] := hl
  refine lv_iload_n hx hb dL_cell_0 rfl (lv_at hl 1 rfl) ?_
  refine lv_aload_n hx hb dL_cell_1 rfl (lv_at hl 0 rfl) ?_
  refine va_slen hx hb hX hbl (fun q => q) hS dL_cell_2 ?_
  refine rv_ge (b := L) (tgt := 12) hx hb dL_cell_3 (by decide) hk hL (fun h1 => ?_) (fun h1 => ?_)
  · refine lv_iconst (v := nI 0) hx hb dL_cell_12 (by decide +kernel) ?_
    exact W.iret hx hb hr (fun t ht hW => ⟨_, rfl, by rw [lw_ce, if_neg (by omega)]; exact ms_nz, ht⟩) (fun q hq => absurd hq List.not_mem_nil) dL_cell_13
  · refine lv_aload_n hx hb dL_cell_6 rfl (lv_at hl 0 rfl) ?_
    refine lv_iload_n hx hb dL_cell_7 rfl (lv_at hl 1 rfl) ?_
    refine rs_sld hx hb hX hbl (fun q => q) hS h1 hL dL_cell_8 ?_
    refine lv_goto (tgt := 13) hx hb dL_cell_9 (by decide) ?_
    exact W.iret hx hb hr (fun t ht hW => ⟨_, rfl, by rw [lw_ce, if_pos h1], ht⟩) (fun q hq => absurd hq List.not_mem_nil) dL_cell_13
/-- a call of cell in the law -/
theorem rs_cell {p : Program} {l : Launch} {e : Env} {R : Room} {s : State} {m : MethodId} {args : Array Value} {below : List Frame} {meth : Method} {c : Code} {H : Heap} {locs : List Loc} {cells slots : Nat} {Q : State → Prop} {cc : ByteArray} {pc : Nat} {ls : Array Slot} {rest : List Value} {A : Nat → Prop} {nL index b L k : Nat} {Ts : List Cond} {own : String} {xs : Nat → Int32} (F : CallFix p m c cc nL s args Ts own) (hsz : ls.size = nL) (cw : CallB R s args own index yL_cell cL_cell 2 (some .int) wsL_cell rm_0 0 0 2 ∧ (Cond.static yL_cell).before args s = true) (hX : va_X b L xs s s.heap) (hbl : b < s.heap.size) (hbA : ¬ A b) (hS : va_S A s.heap H locs) (hL : L < 2 ^ 31) (hk : k < 2 ^ 31) (hW : (rest.map fun v => v.category).sum ≤ 8) (hdg : decode cc pc = .ok (.invokestatic index, 3)) (hcl : cells ≤ R.cells) (hsl : slots ≤ R.slots)
    (kk : W p l e R s m args below meth c H locs cells slots Q (F0 m (pc + 3) ls (.int (lw_ce xs L k) :: rest))) : W p l e R s m args below meth c H locs cells slots Q (F0 m pc ls (.int (nI k) :: .ref b :: rest)) := by
  refine vp_callSi (W.runS (As := [.ref b, .int (nI k)]) F (c_cell l b L k xs hL hk) cw ⟨fun a U g mk q => ⟨q.1, va_X.moved (u := U) (U := U.calling g mk a) (Vm.Alike.refl U.vm) q.2⟩, fun U hU hW => ⟨rfl, ?_⟩⟩ rfl rfl hsz rfl (lv_room hW) hdg ⟨hcl, hsl⟩) (fun r hr => by rw [hr]; exact kk)
  show va_X b L xs U U.heap
  rw [hU]
  exact va_X.moved hW.alike (hX.kept (hS.2.1 b hbl hbA))
theorem st_hC (cI : ClassId) (o ar ac av vx py li : Nat) (a : st_A) (u : st_C) : ∃ fs, (st_wC cI o ar ac av vx py li a u)[0]? = some (o, .inr (1, fs)) := by
  obtain ⟨⟨K, R, C, S, np⟩, M0, P, X, Y⟩ := a
  obtain ⟨⟨su, sa, sb, sc⟩, ⟨sp, ta, tb, tc⟩, ⟨f, g, w⟩, ⟨f2, g2, w2⟩, ⟨pR, pC, pV⟩, ⟨vX, pY, lI⟩⟩ := u
  exact ⟨_, rfl⟩
theorem st_hM (cI : ClassId) (o mo xx yy : Nat) (a : st_A) (u : st_M) : ∃ fs, (st_wM cI o mo xx yy a u)[0]? = some (o, .inr (2, fs)) := by
  obtain ⟨⟨K, R, C, S, np⟩, M0, P, X, Y⟩ := a
  obtain ⟨⟨ta, ot⟩, T, O, E, xX, yY⟩ := u
  exact ⟨_, rfl⟩
theorem st_b60 {a : st_A} {u : st_C} (h : st_rc a u) : a.1.2.2.2.1 ≤ 60 ∧ a.1.2.1 ≤ 60 := by
  obtain ⟨⟨K, R, C, S, np⟩, M0, P, X, Y⟩ := a
  obtain ⟨⟨su, sa, sb, sc⟩, ⟨sp, ta, tb, tc⟩, ⟨f, g, w⟩, ⟨f2, g2, w2⟩, ⟨pR, pC, pV⟩, ⟨vX, pY, lI⟩⟩ := u
  have h : st_RC K R C S np M0 P X Y f g w f2 pR pC pV vX pY := h
  obtain ⟨⟨b1, b2, b3, b4, b5, b6, b7, b8⟩, -⟩ := h.1
  exact ⟨b5, Nat.le_trans b3 b5⟩
theorem lw_len {L i : Nat} (hL : L ≤ 2051) (hi : i ≤ L + 3) : (nI L - nI 4 < nI i → L < i + 4) ∧ (¬ nI L - nI 4 < nI i → i + 4 ≤ L) := by
  have e : (nI L - nI 4).toInt = (L : Int) - (4 : Nat) := pk_sub_toInt (by omega) (by omega)
  rw [ms_lt, e, nI_toInt (by omega)]
  exact ⟨fun h => by omega, fun h => by omega⟩
