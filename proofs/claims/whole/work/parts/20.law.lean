set_option maxHeartbeats 4000000 in
set_option maxRecDepth 100000 in
theorem law_loop {p : Program} {l : Launch} {e : Env} {s : State} {m : MethodId} {below : List Frame} {meth : Method} {c : Code} {b L : Nat} {xs : Nat → Int32} {D : va_G} {cI : ClassId} {o ar ac av vx py li o2 mo xx yy : Nat} (hL : L ≤ 2051) (C0 : lw_At p s m meth c b L xs) (hK : va_K D vwCl [(cI, .int)] s) : ∀ (n i : Nat), L + 4 ≤ i + n → i ≤ L + 3 → lw_N p l e s m below meth c b D cI o ar ac av vx py li o2 mo xx yy i := by
  obtain ⟨hx, hb, hr, hml, hown, hts0, hX, hbl, hlocks, hgv⟩ := id C0
  have hA : ∀ q : Nat, s.heap.size ≤ q → (fun q : Nat => s.heap.size ≤ q) q := fun _ h => h
  have hbA : ¬ (fun q : Nat => s.heap.size ≤ q) b := Nat.not_le.mpr hbl
  intro n
  induction n with
  | zero =>
    intro i h1 h2
    exact absurd h1 (by omega)
  | succ n ih =>
    intro i h1 h2 a u v H locs ls hrc hrm hPC hPM hD hS hl
    refine lv_iload_n hx hb dL_law_48 rfl (lv_at hl 3 rfl) ?_
    refine lv_aload_n hx hb dL_law_49 rfl (lv_at hl 0 rfl) ?_
    refine va_slen hx hb hX hbl hbA hS dL_law_50 ?_
    refine lv_iconst (v := nI 4) hx hb dL_law_51 (by decide +kernel) ?_
    refine lv_isub hx hb dL_law_52 ?_
    refine lv_icmp_gt (tgt := 396) hx hb dL_law_53 (by decide) (fun hc => ?_) (fun hc => ?_)
    · refine lv_iconst (v := 1) hx hb dL_law_396 (by decide) ?_
      refine va_forget (fun q hq => hS.2.2 q hq) ?_
      exact lw_ret hx hb hr hlocks dL_law_397
    · have hi : i + 4 ≤ L := (lw_len hL h2).2 hc
      have nx := ih (i + 4) (by omega) (by omega)
      refine lv_aload_n hx hb dL_law_56 rfl (lv_at hl 0 rfl) ?_
      refine lv_iload_n hx hb dL_law_57 rfl (lv_at hl 3 rfl) ?_
      refine rs_sld hx hb hX hbl hbA hS (show i < L by omega) (by omega) dL_law_58 ?_
      refine lv_bipush (v := nI 15) hx hb dL_law_59 (by decide +kernel) ?_
      refine lv_iand hx hb dL_law_61 ?_
      obtain ⟨t, ht, et⟩ := pk_andE (xs i) (m := nI 15) 4 (by decide)
      refine rv_top et ?_
      clear et
      by_cases w0 : t = 0
      · subst w0
        refine lv_tableIn (tgt := 124) hx hb dL_law_62 (by decide) (by decide) rfl (by decide) ?_
        exact law_add hL C0 hK hi nx a u v H locs ls hrc hrm hPC hPM hD hS hl
      by_cases w1 : t = 1
      · subst w1
        refine lv_tableIn (tgt := 167) hx hb dL_law_62 (by decide) (by decide) rfl (by decide) ?_
        exact law_build hL C0 hK hi nx a u v H locs ls hrc hrm hPC hPM hD hS hl
      by_cases w2 : t = 2
      · subst w2
        refine lv_tableIn (tgt := 180) hx hb dL_law_62 (by decide) (by decide) rfl (by decide) ?_
        exact law_nnz hL C0 hK hi nx a u v H locs ls hrc hrm hPC hPM hD hS hl
      by_cases w3 : t = 3
      · subst w3
        refine lv_tableIn (tgt := 193) hx hb dL_law_62 (by decide) (by decide) rfl (by decide) ?_
        exact law_at hL C0 hK hi nx a u v H locs ls hrc hrm hPC hPM hD hS hl
      by_cases w4 : t = 4
      · subst w4
        refine lv_tableIn (tgt := 226) hx hb dL_law_62 (by decide) (by decide) rfl (by decide) ?_
        exact law_rowStart hL C0 hK hi nx a u v H locs ls hrc hrm hPC hPM hD hS hl
      by_cases w5 : t = 5
      · subst w5
        refine lv_tableIn (tgt := 249) hx hb dL_law_62 (by decide) (by decide) rfl (by decide) ?_
        exact law_colAt hL C0 hK hi nx a u v H locs ls hrc hrm hPC hPM hD hS hl
      by_cases w6 : t = 6
      · subst w6
        refine lv_tableIn (tgt := 272) hx hb dL_law_62 (by decide) (by decide) rfl (by decide) ?_
        exact law_setX hL C0 hK hi nx a u v H locs ls hrc hrm hPC hPM hD hS hl
      by_cases w7 : t = 7
      · subst w7
        refine lv_tableIn (tgt := 305) hx hb dL_law_62 (by decide) (by decide) rfl (by decide) ?_
        exact law_multiplyVector hL C0 hK hi nx a u v H locs ls hrc hrm hPC hPM hD hS hl
      by_cases w8 : t = 8
      · subst w8
        refine lv_tableIn (tgt := 318) hx hb dL_law_62 (by decide) (by decide) rfl (by decide) ?_
        exact law_y hL C0 hK hi nx a u v H locs ls hrc hrm hPC hPM hD hS hl
      by_cases w9 : t = 9
      · subst w9
        refine lv_tableIn (tgt := 341) hx hb dL_law_62 (by decide) (by decide) rfl (by decide) ?_
        exact law_transpose hL C0 hK hi nx a u v H locs ls hrc hrm hPC hPM hD hS hl
      by_cases w10 : t = 10
      · subst w10
        refine lv_tableIn (tgt := 354) hx hb dL_law_62 (by decide) (by decide) rfl (by decide) ?_
        exact law_square hL C0 hK hi nx a u v H locs ls hrc hrm hPC hPM hD hS hl
      by_cases w11 : t = 11
      · subst w11
        refine lv_tableIn (tgt := 367) hx hb dL_law_62 (by decide) (by decide) rfl (by decide) ?_
        exact law_count hL C0 hK hi nx a u v H locs ls hrc hrm hPC hPM hD hS hl
      refine lv_tableOut (tgt := 390) hx hb dL_law_62 (Or.inr (by rw [nI_toInt (by omega)]; omega)) (by decide) ?_
      refine lv_iinc (v := nI (i + 4)) (lv' := [(3, .int (nI (i + 4))), (0, .ref b), (1, .ref o), (2, .ref o2)]) hx hb dL_law_390 hl (k := 3) rfl (rv_inc4 _) (by decide) rfl (fun ls hl => ?_)
      refine lv_goto (tgt := 48) hx hb dL_law_393 (by decide) ?_
      exact nx a u v _ _ _ hrc hrm hPC hPM hD hS (lv_sub hl [1, 2, 3, 0] rfl)

set_option maxHeartbeats 4000000 in
set_option maxRecDepth 100000 in
/-- THE LAW, from its entry -/
theorem whole_start {p : Program} {e : Env} {s : State} {m : MethodId} {below : List Frame} {meth : Method} {c : Code} (l : Launch) {b L : Nat} {xs : Nat → Int32} (hL : L ≤ 2051) (C0 : lw_At p s m meth c b L xs) : W p l e room_1 s m #[Value.ref b] below meth c s.heap [] 0 0 (lw_Z below #[Value.ref b] s) (entryFrame m ([Value.ref b] : List Value).toArray 4) := by
  obtain ⟨hx, hb, hr, hml, hown, hts0, hX, hbl, hlocks, hgv⟩ := id C0
  have hts := fun w h => hts0 w (wsL_law_in w h)
  have hA : ∀ q : Nat, s.heap.size ≤ q → (fun q : Nat => s.heap.size ≤ q) q := fun _ h => h
  have hbA : ¬ (fun q : Nat => s.heap.size ≤ q) b := Nat.not_le.mpr hbl
  obtain ⟨c0, iS0, hKn0⟩ := u_known (C := RX0) (T := TX0) (N := 3) (n := 3) hts0 inX0 (hts0 (.instantiable RX0 3) (by decide +kernel))
  obtain ⟨c1, iS1, hKn1⟩ := u_known (C := RX1) (T := TX1) (N := 12) (n := 12) hts0 inX1 (hts0 (.instantiable RX1 12) (by decide +kernel))
  obtain ⟨c2, iS2, hKn2⟩ := u_known (C := RX2) (T := TX2) (N := 9) (n := 9) hts0 inX2 (hts0 (.instantiable RX2 9) (by decide +kernel))
  obtain ⟨cI, kA, comp, hA1, hA2, hA3⟩ := Cond.arrayClass_spec (hts0 (.arrayClass .int) (by decide +kernel))
  obtain ⟨D, hKc⟩ : ∃ D : va_G, ∀ (k : Nat) (q : vw_C), vwCl[k]? = some q → u_Kn s q.1 q.2.1 q.2.2 (D.1 k) (D.2 k) := by
    refine ⟨(fun k => if k = 0 then c0 else if k = 1 then c1 else c2, fun k => if k = 0 then iS0 else if k = 1 then iS1 else iS2), ?_⟩
    intro k q hq
    match k, hq with
    | 0, hq => cases hq; exact hKn0
    | 1, hq => cases hq; exact hKn1
    | 2, hq => cases hq; exact hKn2
    | k + 3, hq => simp [vwCl] at hq
  have hK : va_K D vwCl [(cI, .int)] s := ⟨hKc, fun k q h => by
    match k, h with
    | 0, h => cases h; exact ⟨fun n z => ⟨fun k h => (by cases h), kA, hA2, comp, hA3⟩, hA1⟩
    | k + 1, h => simp at h⟩
  have hS : va_S (fun q : Nat => s.heap.size ≤ q) s.heap s.heap [] := va_S.rf
  have hP : va_P D vwCl [] s.heap := fun k q h => by simp at h
  have hD : va_D (fun q : Nat => s.heap.size ≤ q) [] := ⟨fun i j p q h => by simp at h, fun k q h => by simp at h⟩
  have hl := lv_entry ([.ref b]) (n := 4) (Nat.le_of_ble_eq_true rfl)
  rw [lg_entry_eq]
  generalize (lg_sl ([.ref b]) ++ List.replicate (4 - (lg_sl ([.ref b])).length) Slot.unset).toArray = ls at hl ⊢
  have hl : lv_has ls 4 [(0, .ref b)] := hl
  refine va_new (ci := 1) (fs := [.int 0, .int 0, .int 0, .null, .null, .null, .null, .null, .int 0, .null, .null, .null]) (C := RX1) (T := TX1) (N := 12) hx hb hts inlX1 tyX1 tyX1_ok hown (hts (.classLink RL 7 RX1) (by decide +kernel)) (hts (.instantiable RX1 12) (by decide +kernel)) (hts (.initialized RX1) (by decide +kernel)) hK hP hD hS hA rfl (fun j hj => by rcases (show j = 0 ∨ j = 1 ∨ j = 2 ∨ j = 3 ∨ j = 4 ∨ j = 5 ∨ j = 6 ∨ j = 7 ∨ j = 8 ∨ j = 9 ∨ j = 10 ∨ j = 11 by omega) with rfl | rfl | rfl | rfl | rfl | rfl | rfl | rfl | rfl | rfl | rfl | rfl <;> rfl) (Nat.le_of_ble_eq_true rfl) (Nat.le_of_ble_eq_true rfl) dL_law_0 (fun o H hP hD hS => ?_)
  have hP : va_P D vwCl [(o, .inr (1, [.int 0, .int 0, .int 0, .null, .null, .null, .null, .null, .int 0, .null, .null, .null]))] H := hP
  have hD : va_D (fun q : Nat => s.heap.size ≤ q) ([(o, .inr (1, [.int 0, .int 0, .int 0, .null, .null, .null, .null, .null, .int 0, .null, .null, .null]))] ++ []) := hD
  refine W.widen (k := 1) (n := 12) (by omega) (by omega) ?_
  refine lv_dup hx hb dL_law_3 rfl ?_
  refine lv_aload_n hx hb dL_law_4 rfl (lv_at hl 0 rfl) ?_
  refine lv_iconst (v := nI 0) hx hb dL_law_5 (by decide +kernel) ?_
  refine rs_cell (k := 0) (rest := [.ref o, .ref o]) ⟨hx, hb, hml, hown, hts⟩ hl.1 (va_cwS 2 hts gL_law_L_cell rfl rfl rfl (by decide +kernel) ⟨Nat.le_of_ble_eq_true rfl, Nat.le_of_ble_eq_true rfl⟩) hX hbl hbA hS (by omega) (by omega) (Nat.le_of_ble_eq_true rfl) dL_law_6 (Nat.le_of_ble_eq_true rfl) (Nat.le_of_ble_eq_true rfl) ?_
  refine lv_aload_n hx hb dL_law_9 rfl (lv_at hl 0 rfl) ?_
  refine lv_iconst (v := nI 1) hx hb dL_law_10 (by decide +kernel) ?_
  refine rs_cell (k := 1) (rest := [.int (lw_ce xs L 0), .ref o, .ref o]) ⟨hx, hb, hml, hown, hts⟩ hl.1 (va_cwS 2 hts gL_law_L_cell rfl rfl rfl (by decide +kernel) ⟨Nat.le_of_ble_eq_true rfl, Nat.le_of_ble_eq_true rfl⟩) hX hbl hbA hS (by omega) (by omega) (Nat.le_of_ble_eq_true rfl) dL_law_11 (Nat.le_of_ble_eq_true rfl) (Nat.le_of_ble_eq_true rfl) ?_
  refine lv_aload_n hx hb dL_law_14 rfl (lv_at hl 0 rfl) ?_
  refine lv_iconst (v := nI 2) hx hb dL_law_15 (by decide +kernel) ?_
  refine rs_cell (k := 2) (rest := [.int (lw_ce xs L 1), .int (lw_ce xs L 0), .ref o, .ref o]) ⟨hx, hb, hml, hown, hts⟩ hl.1 (va_cwS 2 hts gL_law_L_cell rfl rfl rfl (by decide +kernel) ⟨Nat.le_of_ble_eq_true rfl, Nat.le_of_ble_eq_true rfl⟩) hX hbl hbA hS (by omega) (by omega) (Nat.le_of_ble_eq_true rfl) dL_law_16 (Nat.le_of_ble_eq_true rfl) (Nat.le_of_ble_eq_true rfl) ?_
  refine rs_LN (As := [.int (lw_ce xs L 0), .int (lw_ce xs L 1), .int (lw_ce xs L 2)]) (rest := [.ref o]) ⟨hx, hb, hml, hown, hts⟩ hl.1 (c_init l D cI o (lw_ce xs L 0) (lw_ce xs L 1) (lw_ce xs L 2)) (cwI 3 hts gL_law_X1_init rfl rfl rfl (hts (.initialized RX1) (by decide +kernel)) (hts (.methodLink RL 15 yX1_init) (by decide +kernel)) (hts (.instanceMethod yX1_init) (by decide +kernel)) rfl (by decide +kernel) ⟨Nat.le_of_ble_eq_true rfl, Nat.le_of_ble_eq_true rfl⟩) hK hP (show va_P D vwCl [] H from fun k q h => by simp at h) hD hS hA rfl rfl (Nat.le_of_ble_eq_true rfl) dL_law_19 (Nat.le_of_ble_eq_true rfl) (Nat.le_of_ble_eq_true rfl) (fun x1 H locs hrc hPC hP0 hD hS => ?_)
  obtain ⟨⟨ar, ac, av, vx, py, li⟩, u⟩ := x1
  have hrc : st_rc (st_0 (lw_ce xs L 0) (lw_ce xs L 1) (lw_ce xs L 2)) u := hrc
  have hPC : va_P D vwCl (st_wC cI o ar ac av vx py li (st_0 (lw_ce xs L 0) (lw_ce xs L 1) (lw_ce xs L 2)) u) H := hPC
  have hD : va_D (fun q : Nat => s.heap.size ≤ q) ((st_wC cI o ar ac av vx py li (st_0 (lw_ce xs L 0) (lw_ce xs L 1) (lw_ce xs L 2)) u) ++ []) := hD
  rw [List.append_nil] at hD
  refine W.widen (k := 15) (n := 8012) (by omega) (by omega) ?_
  refine lv_astore_n (lv' := [(1, .ref o), (0, .ref b)]) hx hb dL_law_22 rfl hl (by decide) rfl (fun ls hl => ?_)
  refine va_new (ci := 2) (fs := [.int 0, .int 0, .int 0, .int 0, .null, .null, .null, .null, .null]) (C := RX2) (T := TX2) (N := 9) hx hb hts inlX2 tyX2 tyX2_ok hown (hts (.classLink RL 18 RX2) (by decide +kernel)) (hts (.instantiable RX2 9) (by decide +kernel)) (hts (.initialized RX2) (by decide +kernel)) hK hPC hD hS hA rfl (fun j hj => by rcases (show j = 0 ∨ j = 1 ∨ j = 2 ∨ j = 3 ∨ j = 4 ∨ j = 5 ∨ j = 6 ∨ j = 7 ∨ j = 8 by omega) with rfl | rfl | rfl | rfl | rfl | rfl | rfl | rfl | rfl <;> rfl) (Nat.le_of_ble_eq_true rfl) (Nat.le_of_ble_eq_true rfl) dL_law_23 (fun o2 H hP hD hS => ?_)
  have hPM0 : va_P D vwCl [(o2, .inr (2, [.int 0, .int 0, .int 0, .int 0, .null, .null, .null, .null, .null]))] H := fun k q h => hP ((st_wC cI o ar ac av vx py li (st_0 (lw_ce xs L 0) (lw_ce xs L 1) (lw_ce xs L 2)) u).length + k) q (by rw [List.getElem?_append_right (by omega), Nat.add_sub_cancel_left]; exact h)
  have hPC : va_P D vwCl (st_wC cI o ar ac av vx py li (st_0 (lw_ce xs L 0) (lw_ce xs L 1) (lw_ce xs L 2)) u) H := fun k q h => hP k q (by rw [List.getElem?_append_left (List.getElem?_eq_some_iff.mp h).1]; exact h)
  refine W.widen (k := 16) (n := 8021) (by omega) (by omega) ?_
  refine lv_dup hx hb dL_law_26 rfl ?_
  refine lv_aload_n hx hb dL_law_27 rfl (lv_at hl 1 rfl) ?_
  refine lv_iconst (v := nI 0) hx hb dL_law_28 (by decide +kernel) ?_
  refine rs_cell (k := 0) (rest := [.ref o2, .ref o2]) ⟨hx, hb, hml, hown, hts⟩ hl.1 (va_cwS 2 hts gL_law_L_cell rfl rfl rfl (by decide +kernel) ⟨Nat.le_of_ble_eq_true rfl, Nat.le_of_ble_eq_true rfl⟩) hX hbl hbA hS (by omega) (by omega) (Nat.le_of_ble_eq_true rfl) dL_law_29 (Nat.le_of_ble_eq_true rfl) (Nat.le_of_ble_eq_true rfl) ?_
  refine lv_aload_n hx hb dL_law_32 rfl (lv_at hl 1 rfl) ?_
  refine lv_iconst (v := nI 1) hx hb dL_law_33 (by decide +kernel) ?_
  refine rs_cell (k := 1) (rest := [.int (lw_ce xs L 0), .ref o2, .ref o2]) ⟨hx, hb, hml, hown, hts⟩ hl.1 (va_cwS 2 hts gL_law_L_cell rfl rfl rfl (by decide +kernel) ⟨Nat.le_of_ble_eq_true rfl, Nat.le_of_ble_eq_true rfl⟩) hX hbl hbA hS (by omega) (by omega) (Nat.le_of_ble_eq_true rfl) dL_law_34 (Nat.le_of_ble_eq_true rfl) (Nat.le_of_ble_eq_true rfl) ?_
  refine lv_aload_n hx hb dL_law_37 rfl (lv_at hl 1 rfl) ?_
  refine lv_iconst (v := nI 2) hx hb dL_law_38 (by decide +kernel) ?_
  refine rs_cell (k := 2) (rest := [.int (lw_ce xs L 1), .int (lw_ce xs L 0), .ref o2, .ref o2]) ⟨hx, hb, hml, hown, hts⟩ hl.1 (va_cwS 2 hts gL_law_L_cell rfl rfl rfl (by decide +kernel) ⟨Nat.le_of_ble_eq_true rfl, Nat.le_of_ble_eq_true rfl⟩) hX hbl hbA hS (by omega) (by omega) (Nat.le_of_ble_eq_true rfl) dL_law_39 (Nat.le_of_ble_eq_true rfl) (Nat.le_of_ble_eq_true rfl) ?_
  refine rs_LN (As := [.int (lw_ce xs L 0), .int (lw_ce xs L 1), .int (lw_ce xs L 2)]) (rest := [.ref o2]) ⟨hx, hb, hml, hown, hts⟩ hl.1 (d_init l D cI o2 (lw_ce xs L 0) (lw_ce xs L 1) (lw_ce xs L 2)) (cwI 3 hts gL_law_X2_init rfl rfl rfl (hts (.initialized RX2) (by decide +kernel)) (hts (.methodLink RL 20 yX2_init) (by decide +kernel)) (hts (.instanceMethod yX2_init) (by decide +kernel)) rfl (by decide +kernel) ⟨Nat.le_of_ble_eq_true rfl, Nat.le_of_ble_eq_true rfl⟩) hK hPM0 hPC (rs_swap hD) hS hA rfl rfl (Nat.le_of_ble_eq_true rfl) dL_law_42 (Nat.le_of_ble_eq_true rfl) (Nat.le_of_ble_eq_true rfl) (fun x2 H locs hrm hPM hPC hD hS => ?_)
  obtain ⟨⟨mo, xx, yy⟩, v⟩ := x2
  have hrm : st_rm (st_0 (lw_ce xs L 0) (lw_ce xs L 1) (lw_ce xs L 2)) v := hrm
  have hPM : va_P D vwCl (st_wM cI o2 mo xx yy (st_0 (lw_ce xs L 0) (lw_ce xs L 1) (lw_ce xs L 2)) v) H := hPM
  have hD : va_D (fun q : Nat => s.heap.size ≤ q) ((st_wC cI o ar ac av vx py li (st_0 (lw_ce xs L 0) (lw_ce xs L 1) (lw_ce xs L 2)) u) ++ (st_wM cI o2 mo xx yy (st_0 (lw_ce xs L 0) (lw_ce xs L 1) (lw_ce xs L 2)) v)) := rs_swap hD
  refine W.widen (k := 600000) (n := 7302250) (by omega) (by omega) ?_
  refine lv_astore_n (lv' := [(2, .ref o2), (1, .ref o), (0, .ref b)]) hx hb dL_law_45 rfl hl (by decide) rfl (fun ls hl => ?_)
  refine lv_iconst (v := nI 3) hx hb dL_law_46 (by decide +kernel) ?_
  refine lv_istore_n (lv' := [(3, .int (nI 3)), (2, .ref o2), (1, .ref o), (0, .ref b)]) hx hb dL_law_47 rfl hl (by decide) rfl (fun ls hl => ?_)
  exact law_loop hL C0 hK (L + 1) 3 (by omega) (by omega) (st_0 (lw_ce xs L 0) (lw_ce xs L 1) (lw_ce xs L 2)) u v _ _ _ hrc hrm hPC hPM hD hS (lv_sub hl [3, 2, 1, 0] rfl)
