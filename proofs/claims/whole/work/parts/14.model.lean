set_option maxHeartbeats 4000000 in
set_option maxRecDepth 100000 in
theorem d_becomes (l : Launch) (D : va_G) (cI : ClassId) (o K R C np ta ot mo xx yy : Nat) (O : Nat → Int32) (hR : R ≤ 60) (hC : C ≤ 60) (hK0 : K ≤ 1000) : MetI l yX2_becomes wsX2_becomes rm_1 D [(cI, .int)] [.ref o] [(o, .inr (2, [.int (nI K), .int (nI R), .int (nI C), .int (nI np), .ref ta, .ref ot, .ref mo, .ref xx, .ref yy])), (ot, .inl (cI, 3600, .inl O))] (fun (r : Int32) (u : Nat × Nat) => (ms_sc (fun i j => O (60 * i + j)) C R ≤ K ∧ r = nI (ms_sc (fun i j => O (60 * i + j)) C R) ∧ u = (ot, ta)) ∨ (K < ms_sc (fun i j => O (60 * i + j)) C R ∧ r = -1 ∧ u = (ta, ot))) (fun u => [(o, .inr (2, [.int (nI K), .int (nI R), .int (nI C), .int (nI np), .ref u.1, .ref u.2, .ref mo, .ref xx, .ref yy])), (ot, .inl (cI, 3600, .inl O))]) 0 0 := by
  refine rs_I (cc := cX2_becomes) (maxL := 2) (rty := .int) (by decide) rfl (Nat.le_of_ble_eq_true rfl) ?_
  intro p e s m args below meth c Q A ls hx hb hml hown hts hP hK hD hS hA hl ret
  have f13 := hts (.fieldLink RX2 13 "RowSparseModel" "other" "[I") (by decide +kernel)
  have f29 := hts (.fieldLink RX2 29 "RowSparseModel" "rows" "I") (by decide +kernel)
  have f36 := hts (.fieldLink RX2 36 "RowSparseModel" "cap" "I") (by decide +kernel)
  have hin2 : ∀ w ∈ u_ws RX2 TX2 9, w ∈ wsX2_becomes := by decide +kernel
  have hl : lv_has ls 2 [(0, .ref o)] := hl
  have hP : va_P D vwCl [(o, .inr (2, [.int (nI K), .int (nI R), .int (nI C), .int (nI np), .ref ta, .ref ot, .ref mo, .ref xx, .ref yy])), (ot, .inl (cI, 3600, .inl O))] s.heap := hP
  have hD : va_D A [(o, .inr (2, [.int (nI K), .int (nI R), .int (nI C), .int (nI np), .ref ta, .ref ot, .ref mo, .ref xx, .ref yy])), (ot, .inl (cI, 3600, .inl O))] := hD
  have hsc : ms_sc (fun i j => O (60 * i + j)) C R ≤ 3600 := ms_sc60 hR hC
  refine lv_aload_n hx hb dX2_becomes_0 rfl (lv_at hl 0 rfl) ?_
  refine lv_aload_n hx hb dX2_becomes_1 rfl (lv_at hl 0 rfl) ?_
  refine va_get (D := D) (ci := 2) (v := .ref ot) (C := RX2) (T := TX2) (N := 9) hx hb hts hin2 hown hK hP 0 rfl rfl 5 (by decide) f13 (fun _ h9 => h9) rfl dX2_becomes_2 ?_
  refine lv_aload_n hx hb dX2_becomes_5 rfl (lv_at hl 0 rfl) ?_
  refine va_get (D := D) (ci := 2) (v := .int (nI R)) (C := RX2) (T := TX2) (N := 9) hx hb hts hin2 hown hK hP 0 rfl rfl 1 (by decide) f29 (fun _ h9 => h9) rfl dX2_becomes_6 ?_
  refine rs_cR (As := [.ref ot, .int (nI R)]) (rest := []) ⟨hx, hb, hml, hown, hts⟩ hl.1 (c_many l D cI o R C ot R (.int (nI K)) (.int (nI np)) (.ref ta) (.ref ot) (.ref mo) (.ref xx) (.ref yy) O (by omega) (by omega)) (cwV 2 hts gX2_becomes_X2_many rfl rfl rfl (by decide +kernel) ⟨Nat.le_of_ble_eq_true rfl, Nat.le_of_ble_eq_true rfl⟩) hK hP [0, 1] rfl rfl rfl rfl rfl (Nat.le_of_ble_eq_true rfl) dX2_becomes_9 (Nat.le_of_ble_eq_true rfl) (Nat.le_of_ble_eq_true rfl) (fun r hv => ?_)
  subst hv
  refine lv_istore_n (lv' := [(1, .int (nI (ms_sc (fun i j => O (60 * i + j)) C R))), (0, .ref o)]) hx hb dX2_becomes_12 rfl hl (by decide) rfl (fun ls hl => ?_)
  refine lv_iload_n hx hb dX2_becomes_13 rfl (lv_at hl 0 rfl) ?_
  refine lv_aload_n hx hb dX2_becomes_14 rfl (lv_at hl 1 rfl) ?_
  refine va_get (D := D) (ci := 2) (v := .int (nI K)) (C := RX2) (T := TX2) (N := 9) hx hb hts hin2 hown hK hP 0 rfl rfl 0 (by decide) f36 (fun _ h9 => h9) rfl dX2_becomes_15 ?_
  refine rv_le (tgt := 23) hx hb dX2_becomes_18 (by decide) (by omega) (by omega) (fun h1 => ?_) (fun h1 => ?_)
  · refine lv_aload_n hx hb dX2_becomes_23 rfl (lv_at hl 1 rfl) ?_
    refine rs_cV (As := []) (rest := []) (WR := [(ot, .inl (cI, 3600, .inl O))]) ⟨hx, hb, hml, hown, hts⟩ hl.1 (c_turns l D cI o K R C ta ot mo xx yy np) (cwV 0 hts gX2_becomes_X2_turns rfl rfl rfl (by decide +kernel) ⟨Nat.le_of_ble_eq_true rfl, Nat.le_of_ble_eq_true rfl⟩) hK hP hD hS hA [0] [1] rfl rfl (by decide) (by decide) (by decide) rfl rfl rfl rfl (Nat.le_of_ble_eq_true rfl) dX2_becomes_24 (Nat.le_of_ble_eq_true rfl) (Nat.le_of_ble_eq_true rfl) (fun u H locs hu hP hD hS => ?_)
    have hP : va_P D vwCl [(ot, .inl (cI, 3600, .inl O)), (o, .inr (2, [.int (nI K), .int (nI R), .int (nI C), .int (nI np), .ref ot, .ref ta, .ref mo, .ref xx, .ref yy]))] H := hP
    have hD : va_D A [(ot, .inl (cI, 3600, .inl O)), (o, .inr (2, [.int (nI K), .int (nI R), .int (nI C), .int (nI np), .ref ot, .ref ta, .ref mo, .ref xx, .ref yy]))] := hD
    refine lv_iload_n hx hb dX2_becomes_27 rfl (lv_at hl 0 rfl) ?_
    exact ret _ _ _ _ _ (ot, ta) dX2_becomes_28 (rfl) (Or.inl ⟨h1, rfl, rfl⟩) (hP.sub [1, 0] rfl) (hD.sub [1, 0] (by decide) rfl) hS
  · refine lv_iconst (v := (-1)) hx hb dX2_becomes_21 (by decide +kernel) ?_
    exact ret _ _ _ _ _ (ta, ot) dX2_becomes_22 (rfl) (Or.inr ⟨h1, rfl, rfl⟩) (hP.sub [0, 1] rfl) (hD.sub [0, 1] (by decide) rfl) hS

set_option maxHeartbeats 4000000 in
set_option maxRecDepth 100000 in
theorem d_nnz (l : Launch) (D : va_G) (cI : ClassId) (o mo xx yy : Nat) (a : st_A) (u : st_M) (hr : st_rm a u)  : MetR l yX2_nnz wsX2_nnz rm_1 D [(cI, .int)] [.ref o] (st_wM cI o mo xx yy a u) (fun r => r = an_nnz a) := by
  obtain ⟨⟨K, R, C, S, np⟩, M0, P, X, Y⟩ := a
  obtain ⟨⟨ta, ot⟩, T, O, E, xX, yY⟩ := u
  have hr : st_RM K R C S np M0 P X Y T E xX yY := hr
  obtain ⟨⟨⟨b1, b2, b3, b4, b5, b6, b7, b8⟩, hM⟩, hT, hE, hz0, hX, hY⟩ := id hr
  refine rs_R (cc := cX2_nnz) (maxL := 1) (rty := .int) (by decide) rfl (Nat.le_of_ble_eq_true rfl) ?_
  intro p e s m args below meth c Q ls hx hb hml hown hts hP hK hl ret
  have f7 := hts (.fieldLink RX2 7 "RowSparseModel" "table" "[I") (by decide +kernel)
  have f29 := hts (.fieldLink RX2 29 "RowSparseModel" "rows" "I") (by decide +kernel)
  have hin2 : ∀ w ∈ u_ws RX2 TX2 9, w ∈ wsX2_nnz := by decide +kernel
  have hl : lv_has ls 1 [(0, .ref o)] := hl
  have hP : va_P D vwCl [(o, .inr (2, [.int (nI K), .int (nI R), .int (nI C), .int (nI np), .ref ta, .ref ot, .ref mo, .ref xx, .ref yy])), (ta, .inl (cI, 3600, .inl T)), (ot, .inl (cI, 3600, .inl O)), (mo, .inl (cI, 3600, .inl E)), (xx, .inl (cI, 60, .inl xX)), (yy, .inl (cI, 60, .inl yY))] s.heap := hP
  refine lv_aload_n hx hb dX2_nnz_0 rfl (lv_at hl 0 rfl) ?_
  refine lv_aload_n hx hb dX2_nnz_1 rfl (lv_at hl 0 rfl) ?_
  refine va_get (D := D) (ci := 2) (v := .ref ta) (C := RX2) (T := TX2) (N := 9) hx hb hts hin2 hown hK hP 0 rfl rfl 4 (by decide) f7 (fun _ h9 => h9) rfl dX2_nnz_2 ?_
  refine lv_aload_n hx hb dX2_nnz_5 rfl (lv_at hl 0 rfl) ?_
  refine va_get (D := D) (ci := 2) (v := .int (nI R)) (C := RX2) (T := TX2) (N := 9) hx hb hts hin2 hown hK hP 0 rfl rfl 1 (by decide) f29 (fun _ h9 => h9) rfl dX2_nnz_6 ?_
  refine rs_cR (As := [.ref ta, .int (nI R)]) (rest := []) ⟨hx, hb, hml, hown, hts⟩ hl.1 (c_many l D cI o R C ta R (.int (nI K)) (.int (nI np)) (.ref ta) (.ref ot) (.ref mo) (.ref xx) (.ref yy) T (by omega) (by omega)) (cwV 2 hts gX2_nnz_X2_many rfl rfl rfl (by decide +kernel) ⟨Nat.le_of_ble_eq_true rfl, Nat.le_of_ble_eq_true rfl⟩) hK hP [0, 1] rfl rfl rfl rfl rfl (Nat.le_of_ble_eq_true rfl) dX2_nnz_9 (Nat.le_of_ble_eq_true rfl) (Nat.le_of_ble_eq_true rfl) (fun r hv => ?_)
  subst hv
  exact ret _ _ _ dX2_nnz_12 (rfl) (congrArg nI (st_cnt b4 (Nat.le_refl _) hM hT))

set_option maxHeartbeats 4000000 in
set_option maxRecDepth 100000 in
theorem d_at (l : Launch) (D : va_G) (cI : ClassId) (o mo xx yy : Nat) (a : st_A) (u : st_M) (hr : st_rm a u) (i j : Int32) : MetR l yX2_at wsX2_at rm_2 D [(cI, .int)] [.ref o, .int i, .int j] (st_wM cI o mo xx yy a u) (fun r => r = an_at a i j) := by
  obtain ⟨⟨K, R, C, S, np⟩, M0, P, X, Y⟩ := a
  obtain ⟨⟨ta, ot⟩, T, O, E, xX, yY⟩ := u
  have hr : st_RM K R C S np M0 P X Y T E xX yY := hr
  obtain ⟨⟨⟨b1, b2, b3, b4, b5, b6, b7, b8⟩, hM⟩, hT, hE, hz0, hX, hY⟩ := id hr
  refine rs_R (cc := cX2_at) (maxL := 3) (rty := .int) (by decide) rfl (Nat.le_of_ble_eq_true rfl) ?_
  intro p e s m args below meth c Q ls hx hb hml hown hts hP hK hl ret
  have f7 := hts (.fieldLink RX2 7 "RowSparseModel" "table" "[I") (by decide +kernel)
  have hin2 : ∀ w ∈ u_ws RX2 TX2 9, w ∈ wsX2_at := by decide +kernel
  have hl : lv_has ls 3 [(0, .ref o), (1, .int i), (2, .int j)] := hl
  have hP : va_P D vwCl [(o, .inr (2, [.int (nI K), .int (nI R), .int (nI C), .int (nI np), .ref ta, .ref ot, .ref mo, .ref xx, .ref yy])), (ta, .inl (cI, 3600, .inl T)), (ot, .inl (cI, 3600, .inl O)), (mo, .inl (cI, 3600, .inl E)), (xx, .inl (cI, 60, .inl xX)), (yy, .inl (cI, 60, .inl yY))] s.heap := hP
  refine lv_aload_n hx hb dX2_at_0 rfl (lv_at hl 0 rfl) ?_
  refine lv_iload_n hx hb dX2_at_1 rfl (lv_at hl 1 rfl) ?_
  refine lv_iload_n hx hb dX2_at_2 rfl (lv_at hl 2 rfl) ?_
  refine rs_cR (As := [.int i, .int j]) (rest := []) ⟨hx, hb, hml, hown, hts⟩ hl.1 (c_isPlace l D cI o R C (.int (nI K)) (.int (nI np)) (.ref ta) (.ref ot) (.ref mo) (.ref xx) (.ref yy) i j b1 b2 (by omega) (by omega)) (cwV 2 hts gX2_at_X2_isPlace rfl rfl rfl (by decide +kernel) ⟨Nat.le_of_ble_eq_true rfl, Nat.le_of_ble_eq_true rfl⟩) hK hP [0] rfl rfl rfl rfl rfl (Nat.le_of_ble_eq_true rfl) dX2_at_3 (Nat.le_of_ble_eq_true rfl) (Nat.le_of_ble_eq_true rfl) (fun r hv => ?_)
  subst hv
  refine lv_if_eq (tgt := 23) hx hb dX2_at_6 (by decide) (fun h1 => ?_) (fun h1 => ?_)
  · have h1 := ms_bI_0.mp h1
    refine lv_iconst (v := nI 0) hx hb dX2_at_23 (by decide +kernel) ?_
    exact ret _ _ _ dX2_at_24 (rfl) (an_at_f h1)
  · have h1 := ms_bI_n.mp h1
    have h1 := Bool.and_eq_true_iff.mp h1
    obtain ⟨i0, hi0, rfl⟩ := ms_in_of h1.1 (by omega)
    obtain ⟨j0, hj0, rfl⟩ := ms_in_of h1.2 (by omega)
    refine lv_aload_n hx hb dX2_at_9 rfl (lv_at hl 0 rfl) ?_
    refine va_get (D := D) (ci := 2) (v := .ref ta) (C := RX2) (T := TX2) (N := 9) hx hb hts hin2 hown hK hP 0 rfl rfl 4 (by decide) f7 (fun _ h9 => h9) rfl dX2_at_10 ?_
    refine lv_bipush (v := nI 60) hx hb dX2_at_13 (by decide +kernel) ?_
    refine lv_iload_n hx hb dX2_at_15 rfl (lv_at hl 1 rfl) ?_
    refine rv_imul hx hb dX2_at_16 ?_
    refine lv_iload_n hx hb dX2_at_17 rfl (lv_at hl 2 rfl) ?_
    refine rv_iadd hx hb dX2_at_18 ?_
    refine rv_iald hx hb hK hP 1 rfl rfl (by omega) (by omega) dX2_at_19 ?_
    refine rv_top (hT i0 j0 hi0 hj0) ?_
    refine lv_goto (tgt := 24) hx hb dX2_at_20 (by decide) ?_
    exact ret _ _ _ dX2_at_24 (rfl) (an_at_t hi0 hj0 (by omega) (by omega))

set_option maxHeartbeats 4000000 in
set_option maxRecDepth 100000 in
theorem d_rowStart (l : Launch) (D : va_G) (cI : ClassId) (o mo xx yy : Nat) (a : st_A) (u : st_M) (hr : st_rm a u) (i : Int32) : MetR l yX2_rowStart wsX2_rowStart rm_1 D [(cI, .int)] [.ref o, .int i] (st_wM cI o mo xx yy a u) (fun r => r = an_rowStart a i) := by
  obtain ⟨⟨K, R, C, S, np⟩, M0, P, X, Y⟩ := a
  obtain ⟨⟨ta, ot⟩, T, O, E, xX, yY⟩ := u
  have hr : st_RM K R C S np M0 P X Y T E xX yY := hr
  obtain ⟨⟨⟨b1, b2, b3, b4, b5, b6, b7, b8⟩, hM⟩, hT, hE, hz0, hX, hY⟩ := id hr
  refine rs_R (cc := cX2_rowStart) (maxL := 2) (rty := .int) (by decide) rfl (Nat.le_of_ble_eq_true rfl) ?_
  intro p e s m args below meth c Q ls hx hb hml hown hts hP hK hl ret
  have f7 := hts (.fieldLink RX2 7 "RowSparseModel" "table" "[I") (by decide +kernel)
  have f29 := hts (.fieldLink RX2 29 "RowSparseModel" "rows" "I") (by decide +kernel)
  have hin2 : ∀ w ∈ u_ws RX2 TX2 9, w ∈ wsX2_rowStart := by decide +kernel
  have hl : lv_has ls 2 [(0, .ref o), (1, .int i)] := hl
  have hP : va_P D vwCl [(o, .inr (2, [.int (nI K), .int (nI R), .int (nI C), .int (nI np), .ref ta, .ref ot, .ref mo, .ref xx, .ref yy])), (ta, .inl (cI, 3600, .inl T)), (ot, .inl (cI, 3600, .inl O)), (mo, .inl (cI, 3600, .inl E)), (xx, .inl (cI, 60, .inl xX)), (yy, .inl (cI, 60, .inl yY))] s.heap := hP
  refine lv_iload_n hx hb dX2_rowStart_0 rfl (lv_at hl 1 rfl) ?_
  refine lv_iconst (v := nI 0) hx hb dX2_rowStart_1 (by decide +kernel) ?_
  refine lv_aload_n hx hb dX2_rowStart_2 rfl (lv_at hl 0 rfl) ?_
  refine va_get (D := D) (ci := 2) (v := .int (nI R)) (C := RX2) (T := TX2) (N := 9) hx hb hts hin2 hown hK hP 0 rfl rfl 1 (by decide) f29 (fun _ h9 => h9) rfl dX2_rowStart_3 ?_
  refine rs_cRS (As := [.int i, .int (nI 0), .int (nI R)]) (rest := []) ⟨hx, hb, hml, hown, hts⟩ hl.1 (c_in l D cI i R (by omega)) (va_cwS 3 hts gX2_rowStart_X2_in rfl rfl rfl (by decide +kernel) ⟨Nat.le_of_ble_eq_true rfl, Nat.le_of_ble_eq_true rfl⟩) hK hP [] rfl rfl rfl (Nat.le_of_ble_eq_true rfl) dX2_rowStart_6 (Nat.le_of_ble_eq_true rfl) (Nat.le_of_ble_eq_true rfl) (fun r hv => ?_)
  subst hv
  refine lv_if_eq (tgt := 24) hx hb dX2_rowStart_9 (by decide) (fun h1 => ?_) (fun h1 => ?_)
  · have h1 := ms_bI_0.mp h1
    refine lv_iconst (v := (-1)) hx hb dX2_rowStart_24 (by decide +kernel) ?_
    exact ret _ _ _ dX2_rowStart_25 (rfl) (an_rs_f h1)
  · have h1 := ms_bI_n.mp h1
    obtain ⟨i0, hi0, rfl⟩ := ms_in_of h1 (by omega)
    refine lv_aload_n hx hb dX2_rowStart_12 rfl (lv_at hl 0 rfl) ?_
    refine lv_aload_n hx hb dX2_rowStart_13 rfl (lv_at hl 0 rfl) ?_
    refine va_get (D := D) (ci := 2) (v := .ref ta) (C := RX2) (T := TX2) (N := 9) hx hb hts hin2 hown hK hP 0 rfl rfl 4 (by decide) f7 (fun _ h9 => h9) rfl dX2_rowStart_14 ?_
    refine lv_iload_n hx hb dX2_rowStart_17 rfl (lv_at hl 1 rfl) ?_
    refine rs_cR (As := [.ref ta, .int (nI i0)]) (rest := []) ⟨hx, hb, hml, hown, hts⟩ hl.1 (c_many l D cI o R C ta i0 (.int (nI K)) (.int (nI np)) (.ref ta) (.ref ot) (.ref mo) (.ref xx) (.ref yy) T (by omega) (by omega)) (cwV 2 hts gX2_rowStart_X2_many rfl rfl rfl (by decide +kernel) ⟨Nat.le_of_ble_eq_true rfl, Nat.le_of_ble_eq_true rfl⟩) hK hP [0, 1] rfl rfl rfl rfl rfl (Nat.le_of_ble_eq_true rfl) dX2_rowStart_18 (Nat.le_of_ble_eq_true rfl) (Nat.le_of_ble_eq_true rfl) (fun r hv => ?_)
    subst hv
    refine rv_top (congrArg nI (st_cnt b4 (show i0 ≤ R by omega) hM hT)) ?_
    refine lv_goto (tgt := 25) hx hb dX2_rowStart_21 (by decide) ?_
    exact ret _ _ _ dX2_rowStart_25 (rfl) (an_rs_t hi0 (by omega))

set_option maxHeartbeats 4000000 in
set_option maxRecDepth 100000 in
theorem d_colAt (l : Launch) (D : va_G) (cI : ClassId) (o mo xx yy : Nat) (a : st_A) (u : st_M) (hr : st_rm a u) (k : Int32) : MetR l yX2_colAt wsX2_colAt rm_0 D [(cI, .int)] [.ref o, .int k] (st_wM cI o mo xx yy a u) (fun r => an_colAt a k r) := by
  obtain ⟨⟨K, R, C, S, np⟩, M0, P, X, Y⟩ := a
  obtain ⟨⟨ta, ot⟩, T, O, E, xX, yY⟩ := u
  have hr : st_RM K R C S np M0 P X Y T E xX yY := hr
  obtain ⟨⟨⟨b1, b2, b3, b4, b5, b6, b7, b8⟩, hM⟩, hT, hE, hz0, hX, hY⟩ := id hr
  refine rs_R (cc := cX2_colAt) (maxL := 5) (rty := .int) (by decide) rfl (Nat.le_of_ble_eq_true rfl) ?_
  intro p e s m args below meth c Q ls hx hb hml hown hts hP hK hl ret
  have f7 := hts (.fieldLink RX2 7 "RowSparseModel" "table" "[I") (by decide +kernel)
  have f29 := hts (.fieldLink RX2 29 "RowSparseModel" "rows" "I") (by decide +kernel)
  have f33 := hts (.fieldLink RX2 33 "RowSparseModel" "cols" "I") (by decide +kernel)
  have hin2 : ∀ w ∈ u_ws RX2 TX2 9, w ∈ wsX2_colAt := by decide +kernel
  have hl : lv_has ls 5 [(0, .ref o), (1, .int k)] := hl
  have hP : va_P D vwCl [(o, .inr (2, [.int (nI K), .int (nI R), .int (nI C), .int (nI np), .ref ta, .ref ot, .ref mo, .ref xx, .ref yy])), (ta, .inl (cI, 3600, .inl T)), (ot, .inl (cI, 3600, .inl O)), (mo, .inl (cI, 3600, .inl E)), (xx, .inl (cI, 60, .inl xX)), (yy, .inl (cI, 60, .inl yY))] s.heap := hP
  refine lv_iconst (v := nI 0) hx hb dX2_colAt_0 (by decide +kernel) ?_
  refine lv_istore_n (lv' := [(2, .int (nI 0)), (0, .ref o), (1, .int k)]) hx hb dX2_colAt_1 rfl hl (by decide) rfl (fun ls hl => ?_)
  refine lv_iconst (v := nI 0) hx hb dX2_colAt_2 (by decide +kernel) ?_
  refine lv_istore_n (lv' := [(3, .int (nI 0)), (2, .int (nI 0)), (0, .ref o), (1, .int k)]) hx hb dX2_colAt_3 rfl hl (by decide) rfl (fun ls hl => ?_)
  have L4 : ∀ (k4 : Nat) (i : Nat) (ls : Array Slot), i + k4 = R → (∀ q, q < ms_sc M0 S i → ¬ k = nI q) → lv_has ls 5 [(3, .int (nI i)), (2, .int (nI (ms_sc M0 S i))), (0, .ref o), (1, .int k)] → W p l e rm_0 s m args below meth c s.heap [] 0 0 Q (F0 m 4 ls []) := by
    intro k4
    induction k4 with
    | zero =>
      intro i ls hk4 hno hl
      refine lv_iload_n hx hb dX2_colAt_4 rfl (lv_at hl 0 rfl) ?_
      refine lv_aload_n hx hb dX2_colAt_5 rfl (lv_at hl 2 rfl) ?_
      refine va_get (D := D) (ci := 2) (v := .int (nI R)) (C := RX2) (T := TX2) (N := 9) hx hb hts hin2 hown hK hP 0 rfl rfl 1 (by decide) f29 (fun _ h9 => h9) rfl dX2_colAt_6 ?_
      refine rv_ge_t (tgt := 65) hx hb dX2_colAt_9 (by decide) (by omega) (by omega) ?_
      refine lv_iconst (v := (-1)) hx hb dX2_colAt_65 (by decide +kernel) ?_
      exact ret _ _ _ dX2_colAt_66 (rfl) (Or.inr ⟨rfl, by rw [show R = i by omega]; exact st_notany (by have := ms_sc60 (M := M0) (C := S) (R := i) (by omega) (by omega); omega) hno⟩)
    | succ k4 ih4 =>
      intro i ls hk4 hno hl
      refine lv_iload_n hx hb dX2_colAt_4 rfl (lv_at hl 0 rfl) ?_
      refine lv_aload_n hx hb dX2_colAt_5 rfl (lv_at hl 2 rfl) ?_
      refine va_get (D := D) (ci := 2) (v := .int (nI R)) (C := RX2) (T := TX2) (N := 9) hx hb hts hin2 hown hK hP 0 rfl rfl 1 (by decide) f29 (fun _ h9 => h9) rfl dX2_colAt_6 ?_
      refine rv_ge_f (tgt := 65) hx hb dX2_colAt_9 (by decide) (by omega) (by omega) ?_
      refine lv_iconst (v := nI 0) hx hb dX2_colAt_12 (by decide +kernel) ?_
      refine lv_istore (lv' := [(4, .int (nI 0)), (3, .int (nI i)), (2, .int (nI (ms_sc M0 S i))), (0, .ref o), (1, .int k)]) hx hb dX2_colAt_13 hl (by decide) rfl (fun ls hl => ?_)
      have L15 : ∀ (k15 : Nat) (j : Nat) (ls : Array Slot), j + k15 = C → (∀ q, q < ms_sc M0 S i + ms_rc (M0 i) j → ¬ k = nI q) → lv_has ls 5 [(4, .int (nI j)), (2, .int (nI (ms_sc M0 S i + ms_rc (M0 i) j))), (3, .int (nI i)), (0, .ref o), (1, .int k)] → W p l e rm_0 s m args below meth c s.heap [] 0 0 Q (F0 m 15 ls []) := by
        intro k15
        induction k15 with
        | zero =>
          intro j ls hk15 hno2 hl
          have ej : ms_sc M0 S i + ms_rc (M0 i) j = ms_sc M0 S (i + 1) := st_rowend b4 (show j = C by omega) hM
          rw [ej] at hl hno2
          have hno3 := hno2
          refine lv_iload hx hb dX2_colAt_15 (lv_at hl 0 rfl) ?_
          refine lv_aload_n hx hb dX2_colAt_17 rfl (lv_at hl 3 rfl) ?_
          refine va_get (D := D) (ci := 2) (v := .int (nI C)) (C := RX2) (T := TX2) (N := 9) hx hb hts hin2 hown hK hP 0 rfl rfl 2 (by decide) f33 (fun _ h9 => h9) rfl dX2_colAt_18 ?_
          refine rv_ge_t (tgt := 59) hx hb dX2_colAt_21 (by decide) (by omega) (by omega) ?_
          refine lv_iinc (v := nI (i + 1)) (lv' := [(3, .int (nI (i + 1))), (4, .int (nI j)), (2, .int (nI (ms_sc M0 S (i + 1)))), (0, .ref o), (1, .int k)]) hx hb dX2_colAt_59 hl (k := 2) rfl (rv_inc _) (by decide) rfl (fun ls hl => ?_)
          refine lv_goto (tgt := 4) hx hb dX2_colAt_62 (by decide) ?_
          exact ih4 (i + 1) _ (by omega) (hno3) (lv_sub hl [0, 2, 3, 4] rfl)
        | succ k15 ih15 =>
          intro j ls hk15 hno2 hl
          refine lv_iload hx hb dX2_colAt_15 (lv_at hl 0 rfl) ?_
          refine lv_aload_n hx hb dX2_colAt_17 rfl (lv_at hl 3 rfl) ?_
          refine va_get (D := D) (ci := 2) (v := .int (nI C)) (C := RX2) (T := TX2) (N := 9) hx hb hts hin2 hown hK hP 0 rfl rfl 2 (by decide) f33 (fun _ h9 => h9) rfl dX2_colAt_18 ?_
          refine rv_ge_f (tgt := 59) hx hb dX2_colAt_21 (by decide) (by omega) (by omega) ?_
          refine lv_aload_n hx hb dX2_colAt_24 rfl (lv_at hl 3 rfl) ?_
          refine va_get (D := D) (ci := 2) (v := .ref ta) (C := RX2) (T := TX2) (N := 9) hx hb hts hin2 hown hK hP 0 rfl rfl 4 (by decide) f7 (fun _ h9 => h9) rfl dX2_colAt_25 ?_
          refine lv_bipush (v := nI 60) hx hb dX2_colAt_28 (by decide +kernel) ?_
          refine lv_iload_n hx hb dX2_colAt_30 rfl (lv_at hl 2 rfl) ?_
          refine rv_imul hx hb dX2_colAt_31 ?_
          refine lv_iload hx hb dX2_colAt_32 (lv_at hl 0 rfl) ?_
          refine rv_iadd hx hb dX2_colAt_34 ?_
          refine rv_iald hx hb hK hP 1 rfl rfl (by omega) (by omega) dX2_colAt_35 ?_
          refine rv_top (hT i j (by omega) (by omega)) ?_
          refine lv_if_ne (tgt := 42) hx hb dX2_colAt_36 (by decide) (fun hz => ?_) (fun hz => ?_)
          · refine lv_iload_n hx hb dX2_colAt_42 rfl (lv_at hl 1 rfl) ?_
            refine lv_iload_n hx hb dX2_colAt_43 rfl (lv_at hl 4 rfl) ?_
            refine lv_icmp_ne (tgt := 50) hx hb dX2_colAt_44 (by decide) (fun hne => ?_) (fun hne => ?_)
            · refine lv_iinc (v := nI ((ms_sc M0 S i + ms_rc (M0 i) j) + 1)) (lv' := [(2, .int (nI ((ms_sc M0 S i + ms_rc (M0 i) j) + 1))), (4, .int (nI j)), (3, .int (nI i)), (0, .ref o), (1, .int k)]) hx hb dX2_colAt_50 hl (k := 1) rfl (rv_inc _) (by decide) rfl (fun ls hl => ?_)
              refine lv_iinc (v := nI (j + 1)) (lv' := [(4, .int (nI (j + 1))), (2, .int (nI ((ms_sc M0 S i + ms_rc (M0 i) j) + 1))), (3, .int (nI i)), (0, .ref o), (1, .int k)]) hx hb dX2_colAt_53 hl (k := 1) rfl (rv_inc _) (by decide) rfl (fun ls hl => ?_)
              refine lv_goto (tgt := 15) hx hb dX2_colAt_56 (by decide) ?_
              have ez : ms_sc M0 S i + ms_rc (M0 i) j + 1 = ms_sc M0 S i + ms_rc (M0 i) (j + 1) := by rw [ms_rc_yes hz]; rfl
              rw [ez] at hl
              exact ih15 (j + 1) _ (by omega) (fun q hq => by
                rw [← ez] at hq
                by_cases c : q = ms_sc M0 S i + ms_rc (M0 i) j
                · subst c
                  exact fun z => hne z.symm
                · exact hno2 q (by omega)) (lv_sub hl [0, 1, 2, 3, 4] rfl)
            · refine lv_iload hx hb dX2_colAt_47 (lv_at hl 0 rfl) ?_
              exact ret _ _ _ dX2_colAt_49 (rfl) (Or.inl ⟨i, j, by omega, by omega, hz, hne.symm, rfl⟩)
          · refine lv_goto (tgt := 53) hx hb dX2_colAt_39 (by decide) ?_
            refine lv_iinc (v := nI (j + 1)) (lv' := [(4, .int (nI (j + 1))), (2, .int (nI (ms_sc M0 S i + ms_rc (M0 i) j))), (3, .int (nI i)), (0, .ref o), (1, .int k)]) hx hb dX2_colAt_53 hl (k := 0) rfl (rv_inc _) (by decide) rfl (fun ls hl => ?_)
            refine lv_goto (tgt := 15) hx hb dX2_colAt_56 (by decide) ?_
            have ez : ms_rc (M0 i) (j + 1) = ms_rc (M0 i) j := ms_rc_no hz
            rw [← ez] at hl
            exact ih15 (j + 1) _ (by omega) (by rw [ez]; exact hno2) (lv_sub hl [0, 1, 2, 3, 4] rfl)
      exact L15 _ 0 _ (Nat.zero_add _) (hno) (lv_sub hl [0, 2, 1, 3, 4] rfl)
  exact L4 _ 0 _ (Nat.zero_add _) (fun q hq => absurd hq (Nat.not_lt_zero q)) (lv_sub hl [0, 1, 2, 3] rfl)

set_option maxHeartbeats 4000000 in
set_option maxRecDepth 100000 in
theorem d_setX (l : Launch) (D : va_G) (cI : ClassId) (o mo xx yy : Nat) (a : st_A) (u : st_M) (hr : st_rm a u) (j v : Int32) : MetI l yX2_setX wsX2_setX rm_1 D [(cI, .int)] [.ref o, .int j, .int v] (st_wM cI o mo xx yy a u) (fun (r : Int32) (x : st_A × st_M) => r = an_setX a j ∧ x.1 = up_setX a j v ∧ st_rm x.1 x.2) (fun x => st_wM cI o mo xx yy x.1 x.2) 0 0 := by
  obtain ⟨⟨K, R, C, S, np⟩, M0, P, X, Y⟩ := a
  obtain ⟨⟨ta, ot⟩, T, O, E, xX, yY⟩ := u
  have hr : st_RM K R C S np M0 P X Y T E xX yY := hr
  obtain ⟨⟨⟨b1, b2, b3, b4, b5, b6, b7, b8⟩, hM⟩, hT, hE, hz0, hX, hY⟩ := id hr
  refine rs_I (cc := cX2_setX) (maxL := 3) (rty := .boolean) (by decide) rfl (Nat.le_of_ble_eq_true rfl) ?_
  intro p e s m args below meth c Q A ls hx hb hml hown hts hP hK hD hS hA hl ret
  have f19 := hts (.fieldLink RX2 19 "RowSparseModel" "x" "[I") (by decide +kernel)
  have f33 := hts (.fieldLink RX2 33 "RowSparseModel" "cols" "I") (by decide +kernel)
  have hin2 : ∀ w ∈ u_ws RX2 TX2 9, w ∈ wsX2_setX := by decide +kernel
  have hl : lv_has ls 3 [(0, .ref o), (1, .int j), (2, .int v)] := hl
  have hP : va_P D vwCl [(o, .inr (2, [.int (nI K), .int (nI R), .int (nI C), .int (nI np), .ref ta, .ref ot, .ref mo, .ref xx, .ref yy])), (ta, .inl (cI, 3600, .inl T)), (ot, .inl (cI, 3600, .inl O)), (mo, .inl (cI, 3600, .inl E)), (xx, .inl (cI, 60, .inl xX)), (yy, .inl (cI, 60, .inl yY))] s.heap := hP
  have hD : va_D A [(o, .inr (2, [.int (nI K), .int (nI R), .int (nI C), .int (nI np), .ref ta, .ref ot, .ref mo, .ref xx, .ref yy])), (ta, .inl (cI, 3600, .inl T)), (ot, .inl (cI, 3600, .inl O)), (mo, .inl (cI, 3600, .inl E)), (xx, .inl (cI, 60, .inl xX)), (yy, .inl (cI, 60, .inl yY))] := hD
  have eC : C - 1 + 1 = C := by omega
  refine lv_iload_n hx hb dX2_setX_0 rfl (lv_at hl 1 rfl) ?_
  refine lv_iconst (v := nI 0) hx hb dX2_setX_1 (by decide +kernel) ?_
  refine lv_aload_n hx hb dX2_setX_2 rfl (lv_at hl 0 rfl) ?_
  refine va_get (D := D) (ci := 2) (v := .int (nI C)) (C := RX2) (T := TX2) (N := 9) hx hb hts hin2 hown hK hP 0 rfl rfl 2 (by decide) f33 (fun _ h9 => h9) rfl dX2_setX_3 ?_
  refine lv_iconst (v := nI 1) hx hb dX2_setX_6 (by decide +kernel) ?_
  refine rv_isub hx hb (by omega) dX2_setX_7 ?_
  refine rs_cRS (As := [.int j, .int (nI 0), .int (nI (C - 1))]) (rest := []) ⟨hx, hb, hml, hown, hts⟩ hl.1 (c_in l D cI j (C - 1) (by omega)) (va_cwS 3 hts gX2_setX_X2_in rfl rfl rfl (by decide +kernel) ⟨Nat.le_of_ble_eq_true rfl, Nat.le_of_ble_eq_true rfl⟩) hK hP [] rfl rfl rfl (Nat.le_of_ble_eq_true rfl) dX2_setX_8 (Nat.le_of_ble_eq_true rfl) (Nat.le_of_ble_eq_true rfl) (fun r hv => ?_)
  subst hv
  refine lv_if_ne (tgt := 16) hx hb dX2_setX_11 (by decide) (fun h1 => ?_) (fun h1 => ?_)
  · have h1 := ms_bI_n.mp h1
    rw [eC] at h1
    obtain ⟨j0, hj0, rfl⟩ := ms_in_of h1 (by omega)
    refine lv_aload_n hx hb dX2_setX_16 rfl (lv_at hl 0 rfl) ?_
    refine va_get (D := D) (ci := 2) (v := .ref xx) (C := RX2) (T := TX2) (N := 9) hx hb hts hin2 hown hK hP 0 rfl rfl 7 (by decide) f19 (fun _ h9 => h9) rfl dX2_setX_17 ?_
    refine lv_iload_n hx hb dX2_setX_20 rfl (lv_at hl 1 rfl) ?_
    refine lv_iload_n hx hb dX2_setX_21 rfl (lv_at hl 2 rfl) ?_
    refine rv_iast hx hb hK hP hD hS 4 rfl rfl (by omega) (by omega) dX2_setX_22 (fun H locs hP hD hS => ?_)
    have hP : va_P D vwCl [(o, .inr (2, [.int (nI K), .int (nI R), .int (nI C), .int (nI np), .ref ta, .ref ot, .ref mo, .ref xx, .ref yy])), (ta, .inl (cI, 3600, .inl T)), (ot, .inl (cI, 3600, .inl O)), (mo, .inl (cI, 3600, .inl E)), (xx, .inl (cI, 60, .inl (upd xX j0 v))), (yy, .inl (cI, 60, .inl yY))] H := hP
    have hD : va_D A [(o, .inr (2, [.int (nI K), .int (nI R), .int (nI C), .int (nI np), .ref ta, .ref ot, .ref mo, .ref xx, .ref yy])), (ta, .inl (cI, 3600, .inl T)), (ot, .inl (cI, 3600, .inl O)), (mo, .inl (cI, 3600, .inl E)), (xx, .inl (cI, 60, .inl (upd xX j0 v))), (yy, .inl (cI, 60, .inl yY))] := hD
    refine lv_iconst (v := nI 1) hx hb dX2_setX_23 (by decide +kernel) ?_
    exact ret _ _ _ _ _ (((K, R, C, S, np), M0, P, upd X j0 v, Y), ((ta, ot), T, O, (E, upd xX j0 v, yY))) dX2_setX_24 (rfl) (⟨(an_setX_t (v := v) hj0 (by omega)).1, (an_setX_t hj0 (by omega)).2.symm, st_msetx hr⟩) (hP.sub [0, 1, 2, 3, 4, 5] rfl) (hD.sub [0, 1, 2, 3, 4, 5] (by decide) rfl) hS
  · have h1 := ms_bI_0.mp h1
    rw [eC] at h1
    refine lv_iconst (v := nI 0) hx hb dX2_setX_14 (by decide +kernel) ?_
    exact ret _ _ _ _ _ (((K, R, C, S, np), M0, P, X, Y), ((ta, ot), T, O, (E, xX, yY))) dX2_setX_15 (rfl) (⟨(an_setX_f (v := v) h1).1, (an_setX_f h1).2.symm, hr⟩) (hP.sub [0, 1, 2, 3, 4, 5] rfl) (hD.sub [0, 1, 2, 3, 4, 5] (by decide) rfl) hS

set_option maxHeartbeats 4000000 in
set_option maxRecDepth 100000 in
theorem d_y (l : Launch) (D : va_G) (cI : ClassId) (o mo xx yy : Nat) (a : st_A) (u : st_M) (hr : st_rm a u) (i : Int32) : MetR l yX2_y wsX2_y rm_1 D [(cI, .int)] [.ref o, .int i] (st_wM cI o mo xx yy a u) (fun r => r = an_y a i) := by
  obtain ⟨⟨K, R, C, S, np⟩, M0, P, X, Y⟩ := a
  obtain ⟨⟨ta, ot⟩, T, O, E, xX, yY⟩ := u
  have hr : st_RM K R C S np M0 P X Y T E xX yY := hr
  obtain ⟨⟨⟨b1, b2, b3, b4, b5, b6, b7, b8⟩, hM⟩, hT, hE, hz0, hX, hY⟩ := id hr
  refine rs_R (cc := cX2_y) (maxL := 2) (rty := .int) (by decide) rfl (Nat.le_of_ble_eq_true rfl) ?_
  intro p e s m args below meth c Q ls hx hb hml hown hts hP hK hl ret
  have f22 := hts (.fieldLink RX2 22 "RowSparseModel" "y" "[I") (by decide +kernel)
  have f29 := hts (.fieldLink RX2 29 "RowSparseModel" "rows" "I") (by decide +kernel)
  have hin2 : ∀ w ∈ u_ws RX2 TX2 9, w ∈ wsX2_y := by decide +kernel
  have hl : lv_has ls 2 [(0, .ref o), (1, .int i)] := hl
  have hP : va_P D vwCl [(o, .inr (2, [.int (nI K), .int (nI R), .int (nI C), .int (nI np), .ref ta, .ref ot, .ref mo, .ref xx, .ref yy])), (ta, .inl (cI, 3600, .inl T)), (ot, .inl (cI, 3600, .inl O)), (mo, .inl (cI, 3600, .inl E)), (xx, .inl (cI, 60, .inl xX)), (yy, .inl (cI, 60, .inl yY))] s.heap := hP
  have eR : R - 1 + 1 = R := by omega
  refine lv_iload_n hx hb dX2_y_0 rfl (lv_at hl 1 rfl) ?_
  refine lv_iconst (v := nI 0) hx hb dX2_y_1 (by decide +kernel) ?_
  refine lv_aload_n hx hb dX2_y_2 rfl (lv_at hl 0 rfl) ?_
  refine va_get (D := D) (ci := 2) (v := .int (nI R)) (C := RX2) (T := TX2) (N := 9) hx hb hts hin2 hown hK hP 0 rfl rfl 1 (by decide) f29 (fun _ h9 => h9) rfl dX2_y_3 ?_
  refine lv_iconst (v := nI 1) hx hb dX2_y_6 (by decide +kernel) ?_
  refine rv_isub hx hb (by omega) dX2_y_7 ?_
  refine rs_cRS (As := [.int i, .int (nI 0), .int (nI (R - 1))]) (rest := []) ⟨hx, hb, hml, hown, hts⟩ hl.1 (c_in l D cI i (R - 1) (by omega)) (va_cwS 3 hts gX2_y_X2_in rfl rfl rfl (by decide +kernel) ⟨Nat.le_of_ble_eq_true rfl, Nat.le_of_ble_eq_true rfl⟩) hK hP [] rfl rfl rfl (Nat.le_of_ble_eq_true rfl) dX2_y_8 (Nat.le_of_ble_eq_true rfl) (Nat.le_of_ble_eq_true rfl) (fun r hv => ?_)
  subst hv
  refine lv_if_eq (tgt := 23) hx hb dX2_y_11 (by decide) (fun h1 => ?_) (fun h1 => ?_)
  · have h1 := ms_bI_0.mp h1
    rw [eR] at h1
    refine lv_iconst (v := nI 0) hx hb dX2_y_23 (by decide +kernel) ?_
    exact ret _ _ _ dX2_y_24 (rfl) (an_y_f h1)
  · have h1 := ms_bI_n.mp h1
    rw [eR] at h1
    obtain ⟨i0, hi0, rfl⟩ := ms_in_of h1 (by omega)
    refine lv_aload_n hx hb dX2_y_14 rfl (lv_at hl 0 rfl) ?_
    refine va_get (D := D) (ci := 2) (v := .ref yy) (C := RX2) (T := TX2) (N := 9) hx hb hts hin2 hown hK hP 0 rfl rfl 8 (by decide) f22 (fun _ h9 => h9) rfl dX2_y_15 ?_
    refine lv_iload_n hx hb dX2_y_18 rfl (lv_at hl 1 rfl) ?_
    refine rv_iald hx hb hK hP 5 rfl rfl (by omega) (by omega) dX2_y_19 ?_
    refine rv_top (hY i0 hi0) ?_
    refine lv_goto (tgt := 24) hx hb dX2_y_20 (by decide) ?_
    exact ret _ _ _ dX2_y_24 (rfl) (an_y_t hi0 (by omega))

set_option maxHeartbeats 4000000 in
set_option maxRecDepth 100000 in
theorem d_count (l : Launch) (D : va_G) (cI : ClassId) (o mo xx yy : Nat) (a : st_A) (u : st_M) (hr : st_rm a u) (i : Int32) : MetR l yX2_count wsX2_count rm_0 D [(cI, .int)] [.ref o, .int i] (st_wM cI o mo xx yy a u) (fun r => r = an_count a i) := by
  obtain ⟨⟨K, R, C, S, np⟩, M0, P, X, Y⟩ := a
  obtain ⟨⟨ta, ot⟩, T, O, E, xX, yY⟩ := u
  have hr : st_RM K R C S np M0 P X Y T E xX yY := hr
  obtain ⟨⟨⟨b1, b2, b3, b4, b5, b6, b7, b8⟩, hM⟩, hT, hE, hz0, hX, hY⟩ := id hr
  refine rs_R (cc := cX2_count) (maxL := 2) (rty := .int) (by decide) rfl (Nat.le_of_ble_eq_true rfl) ?_
  intro p e s m args below meth c Q ls hx hb hml hown hts hP hK hl ret
  have f29 := hts (.fieldLink RX2 29 "RowSparseModel" "rows" "I") (by decide +kernel)
  have f33 := hts (.fieldLink RX2 33 "RowSparseModel" "cols" "I") (by decide +kernel)
  have f36 := hts (.fieldLink RX2 36 "RowSparseModel" "cap" "I") (by decide +kernel)
  have f47 := hts (.fieldLink RX2 47 "RowSparseModel" "pending" "I") (by decide +kernel)
  have hin2 : ∀ w ∈ u_ws RX2 TX2 9, w ∈ wsX2_count := by decide +kernel
  have hl : lv_has ls 2 [(0, .ref o), (1, .int i)] := hl
  have hP : va_P D vwCl [(o, .inr (2, [.int (nI K), .int (nI R), .int (nI C), .int (nI np), .ref ta, .ref ot, .ref mo, .ref xx, .ref yy])), (ta, .inl (cI, 3600, .inl T)), (ot, .inl (cI, 3600, .inl O)), (mo, .inl (cI, 3600, .inl E)), (xx, .inl (cI, 60, .inl xX)), (yy, .inl (cI, 60, .inl yY))] s.heap := hP
  refine lv_iload_n hx hb dX2_count_0 rfl (lv_at hl 1 rfl) ?_
  refine lv_if_ne (tgt := 11) hx hb dX2_count_1 (by decide) (fun w0 => ?_) (fun w0 => ?_)
  · refine lv_iload_n hx hb dX2_count_11 rfl (lv_at hl 1 rfl) ?_
    refine lv_iconst (v := nI 1) hx hb dX2_count_12 (by decide +kernel) ?_
    refine lv_icmp_ne (tgt := 23) hx hb dX2_count_13 (by decide) (fun w1 => ?_) (fun w1 => ?_)
    · refine lv_iload_n hx hb dX2_count_23 rfl (lv_at hl 1 rfl) ?_
      refine lv_iconst (v := nI 2) hx hb dX2_count_24 (by decide +kernel) ?_
      refine lv_icmp_ne (tgt := 35) hx hb dX2_count_25 (by decide) (fun w2 => ?_) (fun w2 => ?_)
      · refine lv_iload_n hx hb dX2_count_35 rfl (lv_at hl 1 rfl) ?_
        refine lv_iconst (v := nI 3) hx hb dX2_count_36 (by decide +kernel) ?_
        refine lv_icmp_ne (tgt := 47) hx hb dX2_count_37 (by decide) (fun w3 => ?_) (fun w3 => ?_)
        · refine lv_iconst (v := (-1)) hx hb dX2_count_47 (by decide +kernel) ?_
          exact ret _ _ _ dX2_count_48 (rfl) (((if_neg w0).trans ((if_neg w1).trans ((if_neg w2).trans (if_neg w3)))).symm)
        · refine lv_aload_n hx hb dX2_count_40 rfl (lv_at hl 0 rfl) ?_
          refine va_get (D := D) (ci := 2) (v := .int (nI np)) (C := RX2) (T := TX2) (N := 9) hx hb hts hin2 hown hK hP 0 rfl rfl 3 (by decide) f47 (fun _ h9 => h9) rfl dX2_count_41 ?_
          refine lv_goto (tgt := 48) hx hb dX2_count_44 (by decide) ?_
          exact ret _ _ _ dX2_count_48 (rfl) (((if_neg w0).trans ((if_neg w1).trans ((if_neg w2).trans (if_pos w3)))).symm)
      · refine lv_aload_n hx hb dX2_count_28 rfl (lv_at hl 0 rfl) ?_
        refine va_get (D := D) (ci := 2) (v := .int (nI K)) (C := RX2) (T := TX2) (N := 9) hx hb hts hin2 hown hK hP 0 rfl rfl 0 (by decide) f36 (fun _ h9 => h9) rfl dX2_count_29 ?_
        refine lv_goto (tgt := 48) hx hb dX2_count_32 (by decide) ?_
        exact ret _ _ _ dX2_count_48 (rfl) (((if_neg w0).trans ((if_neg w1).trans (if_pos w2))).symm)
    · refine lv_aload_n hx hb dX2_count_16 rfl (lv_at hl 0 rfl) ?_
      refine va_get (D := D) (ci := 2) (v := .int (nI C)) (C := RX2) (T := TX2) (N := 9) hx hb hts hin2 hown hK hP 0 rfl rfl 2 (by decide) f33 (fun _ h9 => h9) rfl dX2_count_17 ?_
      refine lv_goto (tgt := 48) hx hb dX2_count_20 (by decide) ?_
      exact ret _ _ _ dX2_count_48 (rfl) (((if_neg w0).trans (if_pos w1)).symm)
  · refine lv_aload_n hx hb dX2_count_4 rfl (lv_at hl 0 rfl) ?_
    refine va_get (D := D) (ci := 2) (v := .int (nI R)) (C := RX2) (T := TX2) (N := 9) hx hb hts hin2 hown hK hP 0 rfl rfl 1 (by decide) f29 (fun _ h9 => h9) rfl dX2_count_5 ?_
    refine lv_goto (tgt := 48) hx hb dX2_count_8 (by decide) ?_
    exact ret _ _ _ dX2_count_48 (rfl) ((if_pos w0).symm)

set_option maxHeartbeats 4000000 in
set_option maxRecDepth 100000 in
theorem d_add (l : Launch) (D : va_G) (cI : ClassId) (o mo xx yy : Nat) (a : st_A) (u : st_M) (hr : st_rm a u) (i j v : Int32) : MetI l yX2_add wsX2_add rm_2 D [(cI, .int)] [.ref o, .int i, .int j, .int v] (st_wM cI o mo xx yy a u) (fun (r : Int32) (x : st_A × st_M) => r = (an_add a i j).1 ∧ x.1 = up_add a i j v ∧ st_rm x.1 x.2) (fun x => st_wM cI o mo xx yy x.1 x.2) 0 0 := by
  obtain ⟨⟨K, R, C, S, np⟩, M0, P, X, Y⟩ := a
  obtain ⟨⟨ta, ot⟩, T, O, E, xX, yY⟩ := u
  have hr : st_RM K R C S np M0 P X Y T E xX yY := hr
  obtain ⟨⟨⟨b1, b2, b3, b4, b5, b6, b7, b8⟩, hM⟩, hT, hE, hz0, hX, hY⟩ := id hr
  refine rs_I (cc := cX2_add) (maxL := 4) (rty := .boolean) (by decide) rfl (Nat.le_of_ble_eq_true rfl) ?_
  intro p e s m args below meth c Q A ls hx hb hml hown hts hP hK hD hS hA hl ret
  have f16 := hts (.fieldLink RX2 16 "RowSparseModel" "more" "[I") (by decide +kernel)
  have f36 := hts (.fieldLink RX2 36 "RowSparseModel" "cap" "I") (by decide +kernel)
  have f47 := hts (.fieldLink RX2 47 "RowSparseModel" "pending" "I") (by decide +kernel)
  have hin2 : ∀ w ∈ u_ws RX2 TX2 9, w ∈ wsX2_add := by decide +kernel
  have hl : lv_has ls 4 [(0, .ref o), (1, .int i), (2, .int j), (3, .int v)] := hl
  have hP : va_P D vwCl [(o, .inr (2, [.int (nI K), .int (nI R), .int (nI C), .int (nI np), .ref ta, .ref ot, .ref mo, .ref xx, .ref yy])), (ta, .inl (cI, 3600, .inl T)), (ot, .inl (cI, 3600, .inl O)), (mo, .inl (cI, 3600, .inl E)), (xx, .inl (cI, 60, .inl xX)), (yy, .inl (cI, 60, .inl yY))] s.heap := hP
  have hD : va_D A [(o, .inr (2, [.int (nI K), .int (nI R), .int (nI C), .int (nI np), .ref ta, .ref ot, .ref mo, .ref xx, .ref yy])), (ta, .inl (cI, 3600, .inl T)), (ot, .inl (cI, 3600, .inl O)), (mo, .inl (cI, 3600, .inl E)), (xx, .inl (cI, 60, .inl xX)), (yy, .inl (cI, 60, .inl yY))] := hD
  refine lv_aload_n hx hb dX2_add_0 rfl (lv_at hl 0 rfl) ?_
  refine lv_iload_n hx hb dX2_add_1 rfl (lv_at hl 1 rfl) ?_
  refine lv_iload_n hx hb dX2_add_2 rfl (lv_at hl 2 rfl) ?_
  refine rs_cR (As := [.int i, .int j]) (rest := []) ⟨hx, hb, hml, hown, hts⟩ hl.1 (c_isPlace l D cI o R C (.int (nI K)) (.int (nI np)) (.ref ta) (.ref ot) (.ref mo) (.ref xx) (.ref yy) i j b1 b2 (by omega) (by omega)) (cwV 2 hts gX2_add_X2_isPlace rfl rfl rfl (by decide +kernel) ⟨Nat.le_of_ble_eq_true rfl, Nat.le_of_ble_eq_true rfl⟩) hK hP [0] rfl rfl rfl rfl rfl (Nat.le_of_ble_eq_true rfl) dX2_add_3 (Nat.le_of_ble_eq_true rfl) (Nat.le_of_ble_eq_true rfl) (fun r hv => ?_)
  subst hv
  refine lv_if_eq (tgt := 20) hx hb dX2_add_6 (by decide) (fun h1 => ?_) (fun h1 => ?_)
  · have h1 := ms_bI_0.mp h1
    refine lv_iconst (v := nI 0) hx hb dX2_add_20 (by decide +kernel) ?_
    exact ret _ _ _ _ _ (((K, R, C, S, np), M0, P, X, Y), ((ta, ot), T, O, (E, xX, yY))) dX2_add_21 (rfl) (⟨(an_add_f (v := v) (an_add_c1 h1)).1, (an_add_f (an_add_c1 h1)).2.symm, hr⟩) (hP.sub [0, 1, 2, 3, 4, 5] rfl) (hD.sub [0, 1, 2, 3, 4, 5] (by decide) rfl) hS
  · have h1 := ms_bI_n.mp h1
    refine lv_aload_n hx hb dX2_add_9 rfl (lv_at hl 0 rfl) ?_
    refine va_get (D := D) (ci := 2) (v := .int (nI np)) (C := RX2) (T := TX2) (N := 9) hx hb hts hin2 hown hK hP 0 rfl rfl 3 (by decide) f47 (fun _ h9 => h9) rfl dX2_add_10 ?_
    refine lv_aload_n hx hb dX2_add_13 rfl (lv_at hl 0 rfl) ?_
    refine va_get (D := D) (ci := 2) (v := .int (nI K)) (C := RX2) (T := TX2) (N := 9) hx hb hts hin2 hown hK hP 0 rfl rfl 0 (by decide) f36 (fun _ h9 => h9) rfl dX2_add_14 ?_
    refine rv_ne (tgt := 22) hx hb dX2_add_17 (by decide) (by omega) (by omega) (fun h2 => ?_) (fun h2 => ?_)
    · have h1 := Bool.and_eq_true_iff.mp h1
      obtain ⟨i0, hi0, rfl⟩ := ms_in_of h1.1 (by omega)
      obtain ⟨j0, hj0, rfl⟩ := ms_in_of h1.2 (by omega)
      have h3 : np < K := by omega
      have h9 := an_add_c3 (K := K) (np := np) hi0 hj0 (by omega) (by omega) h3
      refine lv_aload_n hx hb dX2_add_22 rfl (lv_at hl 0 rfl) ?_
      refine va_get (D := D) (ci := 2) (v := .ref mo) (C := RX2) (T := TX2) (N := 9) hx hb hts hin2 hown hK hP 0 rfl rfl 6 (by decide) f16 (fun _ h9 => h9) rfl dX2_add_23 ?_
      refine lv_bipush (v := nI 60) hx hb dX2_add_26 (by decide +kernel) ?_
      refine lv_iload_n hx hb dX2_add_28 rfl (lv_at hl 1 rfl) ?_
      refine rv_imul hx hb dX2_add_29 ?_
      refine lv_iload_n hx hb dX2_add_30 rfl (lv_at hl 2 rfl) ?_
      refine rv_iadd hx hb dX2_add_31 ?_
      refine lv_dup2_11 hx hb dX2_add_32 rfl rfl ?_
      refine rv_iald hx hb hK hP 3 rfl rfl (by omega) (by omega) dX2_add_33 ?_
      refine lv_iload_n hx hb dX2_add_34 rfl (lv_at hl 3 rfl) ?_
      refine lv_iadd hx hb dX2_add_35 ?_
      refine rv_iast hx hb hK hP hD hS 3 rfl rfl (by omega) (by omega) dX2_add_36 (fun H locs hP hD hS => ?_)
      have hP : va_P D vwCl [(o, .inr (2, [.int (nI K), .int (nI R), .int (nI C), .int (nI np), .ref ta, .ref ot, .ref mo, .ref xx, .ref yy])), (ta, .inl (cI, 3600, .inl T)), (ot, .inl (cI, 3600, .inl O)), (mo, .inl (cI, 3600, .inl (upd E (60 * i0 + j0) ((E (60 * i0 + j0)) + v)))), (xx, .inl (cI, 60, .inl xX)), (yy, .inl (cI, 60, .inl yY))] H := hP
      have hD : va_D A [(o, .inr (2, [.int (nI K), .int (nI R), .int (nI C), .int (nI np), .ref ta, .ref ot, .ref mo, .ref xx, .ref yy])), (ta, .inl (cI, 3600, .inl T)), (ot, .inl (cI, 3600, .inl O)), (mo, .inl (cI, 3600, .inl (upd E (60 * i0 + j0) ((E (60 * i0 + j0)) + v)))), (xx, .inl (cI, 60, .inl xX)), (yy, .inl (cI, 60, .inl yY))] := hD
      refine lv_aload_n hx hb dX2_add_37 rfl (lv_at hl 0 rfl) ?_
      refine lv_dup hx hb dX2_add_38 rfl ?_
      refine va_get (D := D) (ci := 2) (v := .int (nI np)) (C := RX2) (T := TX2) (N := 9) hx hb hts hin2 hown hK hP 0 rfl rfl 3 (by decide) f47 (fun _ h9 => h9) rfl dX2_add_39 ?_
      refine lv_iconst (v := nI 1) hx hb dX2_add_42 (by decide +kernel) ?_
      refine rv_iadd hx hb dX2_add_43 ?_
      refine va_put (D := D) (ci := 2) (v := .int (nI (np + 1))) (ty := .int) (C := RX2) (T := TX2) (N := 9) hx hb hts hin2 tyX2 tyX2_ok nmX2 hown hK hP hD hS 0 rfl rfl 3 (by decide) f47 (fun _ h9 => h9) rfl (by decide +kernel) rfl rfl (Nat.le_of_ble_eq_true rfl) dX2_add_44 (fun H locs hP hD hS => ?_)
      have hP : va_P D vwCl [(o, .inr (2, [.int (nI K), .int (nI R), .int (nI C), .int (nI (np + 1)), .ref ta, .ref ot, .ref mo, .ref xx, .ref yy])), (ta, .inl (cI, 3600, .inl T)), (ot, .inl (cI, 3600, .inl O)), (mo, .inl (cI, 3600, .inl (upd E (60 * i0 + j0) ((E (60 * i0 + j0)) + v)))), (xx, .inl (cI, 60, .inl xX)), (yy, .inl (cI, 60, .inl yY))] H := hP
      have hD : va_D A [(o, .inr (2, [.int (nI K), .int (nI R), .int (nI C), .int (nI (np + 1)), .ref ta, .ref ot, .ref mo, .ref xx, .ref yy])), (ta, .inl (cI, 3600, .inl T)), (ot, .inl (cI, 3600, .inl O)), (mo, .inl (cI, 3600, .inl (upd E (60 * i0 + j0) ((E (60 * i0 + j0)) + v)))), (xx, .inl (cI, 60, .inl xX)), (yy, .inl (cI, 60, .inl yY))] := hD
      refine lv_iconst (v := nI 1) hx hb dX2_add_47 (by decide +kernel) ?_
      exact ret _ _ _ _ _ (((K, R, C, S, np + 1), M0, (fun a b => if nI a = nI i0 ∧ nI b = nI j0 then P a b + v else P a b), X, Y), ((ta, ot), T, O, (upd E (60 * i0 + j0) (E (60 * i0 + j0) + v), xX, yY))) dX2_add_48 (rfl) (⟨(an_add_t (v := v) h9).1, (an_add_t h9).2.symm, st_madd hr hi0 hj0 h3⟩) (hP.sub [0, 1, 2, 3, 4, 5] rfl) (hD.sub [0, 1, 2, 3, 4, 5] (by decide) rfl) hS
    · refine lv_iconst (v := nI 0) hx hb dX2_add_20 (by decide +kernel) ?_
      exact ret _ _ _ _ _ (((K, R, C, S, np), M0, P, X, Y), ((ta, ot), T, O, (E, xX, yY))) dX2_add_21 (rfl) (⟨(an_add_f (v := v) (an_add_c2 (by omega))).1, (an_add_f (an_add_c2 (by omega))).2.symm, hr⟩) (hP.sub [0, 1, 2, 3, 4, 5] rfl) (hD.sub [0, 1, 2, 3, 4, 5] (by decide) rfl) hS

set_option maxHeartbeats 4000000 in
set_option maxRecDepth 100000 in
theorem d_multiplyVector (l : Launch) (D : va_G) (cI : ClassId) (o mo xx yy : Nat) (a : st_A) (u : st_M) (hr : st_rm a u)  : MetI l yX2_multiplyVector wsX2_multiplyVector rm_0 D [(cI, .int)] [.ref o] (st_wM cI o mo xx yy a u) (fun (r : Int32) (x : st_A × st_M) => r = 1 ∧ x.1 = up_mul a ∧ st_rm x.1 x.2) (fun x => st_wM cI o mo xx yy x.1 x.2) 0 0 := by
  obtain ⟨⟨K, R, C, S, np⟩, M0, P, X, Y⟩ := a
  obtain ⟨⟨ta, ot⟩, T, O, E, xX, yY⟩ := u
  have hr : st_RM K R C S np M0 P X Y T E xX yY := hr
  obtain ⟨⟨⟨b1, b2, b3, b4, b5, b6, b7, b8⟩, hM⟩, hT, hE, hz0, hX, hY⟩ := id hr
  refine rs_I (cc := cX2_multiplyVector) (maxL := 4) (rty := .boolean) (by decide) rfl (Nat.le_of_ble_eq_true rfl) ?_
  intro p e s m args below meth c Q A ls hx hb hml hown hts hP hK hD hS hA hl ret
  have f7 := hts (.fieldLink RX2 7 "RowSparseModel" "table" "[I") (by decide +kernel)
  have f19 := hts (.fieldLink RX2 19 "RowSparseModel" "x" "[I") (by decide +kernel)
  have f22 := hts (.fieldLink RX2 22 "RowSparseModel" "y" "[I") (by decide +kernel)
  have f29 := hts (.fieldLink RX2 29 "RowSparseModel" "rows" "I") (by decide +kernel)
  have f33 := hts (.fieldLink RX2 33 "RowSparseModel" "cols" "I") (by decide +kernel)
  have hin2 : ∀ w ∈ u_ws RX2 TX2 9, w ∈ wsX2_multiplyVector := by decide +kernel
  have hl : lv_has ls 4 [(0, .ref o)] := hl
  have hP : va_P D vwCl [(o, .inr (2, [.int (nI K), .int (nI R), .int (nI C), .int (nI np), .ref ta, .ref ot, .ref mo, .ref xx, .ref yy])), (ta, .inl (cI, 3600, .inl T)), (ot, .inl (cI, 3600, .inl O)), (mo, .inl (cI, 3600, .inl E)), (xx, .inl (cI, 60, .inl xX)), (yy, .inl (cI, 60, .inl yY))] s.heap := hP
  have hD : va_D A [(o, .inr (2, [.int (nI K), .int (nI R), .int (nI C), .int (nI np), .ref ta, .ref ot, .ref mo, .ref xx, .ref yy])), (ta, .inl (cI, 3600, .inl T)), (ot, .inl (cI, 3600, .inl O)), (mo, .inl (cI, 3600, .inl E)), (xx, .inl (cI, 60, .inl xX)), (yy, .inl (cI, 60, .inl yY))] := hD
  refine lv_iconst (v := nI 0) hx hb dX2_multiplyVector_0 (by decide +kernel) ?_
  refine lv_istore_n (lv' := [(1, .int (nI 0)), (0, .ref o)]) hx hb dX2_multiplyVector_1 rfl hl (by decide) rfl (fun ls hl => ?_)
  have L2 : ∀ (k2 : Nat) (i : Nat) (y1 : Nat → Int32) (H : Heap) (locs : List Loc) (ls : Array Slot), i + k2 = R → (∀ t, t < i → y1 t = ms_sm (fun j => M0 t j * X j) C) → va_P D vwCl [(o, .inr (2, [.int (nI K), .int (nI R), .int (nI C), .int (nI np), .ref ta, .ref ot, .ref mo, .ref xx, .ref yy])), (ta, .inl (cI, 3600, .inl T)), (ot, .inl (cI, 3600, .inl O)), (mo, .inl (cI, 3600, .inl E)), (xx, .inl (cI, 60, .inl xX)), (yy, .inl (cI, 60, .inl y1))] H → va_D A [(o, .inr (2, [.int (nI K), .int (nI R), .int (nI C), .int (nI np), .ref ta, .ref ot, .ref mo, .ref xx, .ref yy])), (ta, .inl (cI, 3600, .inl T)), (ot, .inl (cI, 3600, .inl O)), (mo, .inl (cI, 3600, .inl E)), (xx, .inl (cI, 60, .inl xX)), (yy, .inl (cI, 60, .inl y1))] → va_S A s.heap H locs → lv_has ls 4 [(1, .int (nI i)), (0, .ref o)] → W p l e rm_0 s m args below meth c H locs 0 0 Q (F0 m 2 ls []) := by
    intro k2
    induction k2 with
    | zero =>
      intro i y1 H locs ls hk2 hy hP hD hS hl
      refine lv_iload_n hx hb dX2_multiplyVector_2 rfl (lv_at hl 0 rfl) ?_
      refine lv_aload_n hx hb dX2_multiplyVector_3 rfl (lv_at hl 1 rfl) ?_
      refine va_get (D := D) (ci := 2) (v := .int (nI R)) (C := RX2) (T := TX2) (N := 9) hx hb hts hin2 hown hK hP 0 rfl rfl 1 (by decide) f29 (fun _ h9 => h9) rfl dX2_multiplyVector_4 ?_
      refine rv_ge_t (tgt := 62) hx hb dX2_multiplyVector_7 (by decide) (by omega) (by omega) ?_
      refine lv_iconst (v := nI 1) hx hb dX2_multiplyVector_62 (by decide +kernel) ?_
      exact ret _ _ _ _ _ (((K, R, C, S, np), M0, P, X, fun i => ms_sm (fun j => M0 i j * X j) C), ((ta, ot), T, O, (E, xX, y1))) dX2_multiplyVector_63 (rfl) (⟨ms_n1, rfl, st_mmul hr (fun t ht => hy t (by omega))⟩) (hP.sub [0, 1, 2, 3, 4, 5] rfl) (hD.sub [0, 1, 2, 3, 4, 5] (by decide) rfl) hS
    | succ k2 ih2 =>
      intro i y1 H locs ls hk2 hy hP hD hS hl
      have hi0 : i < R := by omega
      refine lv_iload_n hx hb dX2_multiplyVector_2 rfl (lv_at hl 0 rfl) ?_
      refine lv_aload_n hx hb dX2_multiplyVector_3 rfl (lv_at hl 1 rfl) ?_
      refine va_get (D := D) (ci := 2) (v := .int (nI R)) (C := RX2) (T := TX2) (N := 9) hx hb hts hin2 hown hK hP 0 rfl rfl 1 (by decide) f29 (fun _ h9 => h9) rfl dX2_multiplyVector_4 ?_
      refine rv_ge_f (tgt := 62) hx hb dX2_multiplyVector_7 (by decide) (by omega) (by omega) ?_
      refine lv_iconst (v := nI 0) hx hb dX2_multiplyVector_10 (by decide +kernel) ?_
      refine lv_istore_n (lv' := [(2, .int (nI 0)), (1, .int (nI i)), (0, .ref o)]) hx hb dX2_multiplyVector_11 rfl hl (by decide) rfl (fun ls hl => ?_)
      refine lv_iconst (v := nI 0) hx hb dX2_multiplyVector_12 (by decide +kernel) ?_
      refine lv_istore_n (lv' := [(3, .int (nI 0)), (2, .int (nI 0)), (1, .int (nI i)), (0, .ref o)]) hx hb dX2_multiplyVector_13 rfl hl (by decide) rfl (fun ls hl => ?_)
      have L14 : ∀ (k14 : Nat) (j : Nat) (v : Int32) (ls : Array Slot), j + k14 = C → v = ms_sm (fun j => M0 i j * X j) j → lv_has ls 4 [(3, .int (nI j)), (2, .int v), (1, .int (nI i)), (0, .ref o)] → W p l e rm_0 s m args below meth c H locs 0 0 Q (F0 m 14 ls []) := by
        intro k14
        induction k14 with
        | zero =>
          intro j v ls hk14 hv hl
          refine lv_iload_n hx hb dX2_multiplyVector_14 rfl (lv_at hl 0 rfl) ?_
          refine lv_aload_n hx hb dX2_multiplyVector_15 rfl (lv_at hl 3 rfl) ?_
          refine va_get (D := D) (ci := 2) (v := .int (nI C)) (C := RX2) (T := TX2) (N := 9) hx hb hts hin2 hown hK hP 0 rfl rfl 2 (by decide) f33 (fun _ h9 => h9) rfl dX2_multiplyVector_16 ?_
          refine rv_ge_t (tgt := 49) hx hb dX2_multiplyVector_19 (by decide) (by omega) (by omega) ?_
          refine lv_aload_n hx hb dX2_multiplyVector_49 rfl (lv_at hl 3 rfl) ?_
          refine va_get (D := D) (ci := 2) (v := .ref yy) (C := RX2) (T := TX2) (N := 9) hx hb hts hin2 hown hK hP 0 rfl rfl 8 (by decide) f22 (fun _ h9 => h9) rfl dX2_multiplyVector_50 ?_
          refine lv_iload_n hx hb dX2_multiplyVector_53 rfl (lv_at hl 2 rfl) ?_
          refine lv_iload_n hx hb dX2_multiplyVector_54 rfl (lv_at hl 1 rfl) ?_
          refine rv_iast hx hb hK hP hD hS 5 rfl rfl (by omega) (by omega) dX2_multiplyVector_55 (fun H locs hP hD hS => ?_)
          have hP : va_P D vwCl [(o, .inr (2, [.int (nI K), .int (nI R), .int (nI C), .int (nI np), .ref ta, .ref ot, .ref mo, .ref xx, .ref yy])), (ta, .inl (cI, 3600, .inl T)), (ot, .inl (cI, 3600, .inl O)), (mo, .inl (cI, 3600, .inl E)), (xx, .inl (cI, 60, .inl xX)), (yy, .inl (cI, 60, .inl (upd y1 i v)))] H := hP
          have hD : va_D A [(o, .inr (2, [.int (nI K), .int (nI R), .int (nI C), .int (nI np), .ref ta, .ref ot, .ref mo, .ref xx, .ref yy])), (ta, .inl (cI, 3600, .inl T)), (ot, .inl (cI, 3600, .inl O)), (mo, .inl (cI, 3600, .inl E)), (xx, .inl (cI, 60, .inl xX)), (yy, .inl (cI, 60, .inl (upd y1 i v)))] := hD
          refine lv_iinc (v := nI (i + 1)) (lv' := [(1, .int (nI (i + 1))), (3, .int (nI j)), (2, .int v), (0, .ref o)]) hx hb dX2_multiplyVector_56 hl (k := 2) rfl (rv_inc _) (by decide) rfl (fun ls hl => ?_)
          refine lv_goto (tgt := 2) hx hb dX2_multiplyVector_59 (by decide) ?_
          exact ih2 (i + 1) (upd y1 i v) _ _ _ (by omega) (by
            have ej : v = ms_sm (fun j => M0 i j * X j) C := by rw [hv, show j = C by omega]
            rw [ej]
            exact ms_updstep (F := fun t => ms_sm (fun j => M0 t j * X j) C) hy) (hP.sub [0, 1, 2, 3, 4, 5] rfl) (hD.sub [0, 1, 2, 3, 4, 5] (by decide) rfl) hS (lv_sub hl [0, 3] rfl)
        | succ k14 ih14 =>
          intro j v ls hk14 hv hl
          refine lv_iload_n hx hb dX2_multiplyVector_14 rfl (lv_at hl 0 rfl) ?_
          refine lv_aload_n hx hb dX2_multiplyVector_15 rfl (lv_at hl 3 rfl) ?_
          refine va_get (D := D) (ci := 2) (v := .int (nI C)) (C := RX2) (T := TX2) (N := 9) hx hb hts hin2 hown hK hP 0 rfl rfl 2 (by decide) f33 (fun _ h9 => h9) rfl dX2_multiplyVector_16 ?_
          refine rv_ge_f (tgt := 49) hx hb dX2_multiplyVector_19 (by decide) (by omega) (by omega) ?_
          refine lv_iload_n hx hb dX2_multiplyVector_22 rfl (lv_at hl 1 rfl) ?_
          refine lv_aload_n hx hb dX2_multiplyVector_23 rfl (lv_at hl 3 rfl) ?_
          refine va_get (D := D) (ci := 2) (v := .ref ta) (C := RX2) (T := TX2) (N := 9) hx hb hts hin2 hown hK hP 0 rfl rfl 4 (by decide) f7 (fun _ h9 => h9) rfl dX2_multiplyVector_24 ?_
          refine lv_bipush (v := nI 60) hx hb dX2_multiplyVector_27 (by decide +kernel) ?_
          refine lv_iload_n hx hb dX2_multiplyVector_29 rfl (lv_at hl 2 rfl) ?_
          refine rv_imul hx hb dX2_multiplyVector_30 ?_
          refine lv_iload_n hx hb dX2_multiplyVector_31 rfl (lv_at hl 0 rfl) ?_
          refine rv_iadd hx hb dX2_multiplyVector_32 ?_
          refine rv_iald hx hb hK hP 1 rfl rfl (by omega) (by omega) dX2_multiplyVector_33 ?_
          refine rv_top (hT i j (by omega) (by omega)) ?_
          refine lv_aload_n hx hb dX2_multiplyVector_34 rfl (lv_at hl 3 rfl) ?_
          refine va_get (D := D) (ci := 2) (v := .ref xx) (C := RX2) (T := TX2) (N := 9) hx hb hts hin2 hown hK hP 0 rfl rfl 7 (by decide) f19 (fun _ h9 => h9) rfl dX2_multiplyVector_35 ?_
          refine lv_iload_n hx hb dX2_multiplyVector_38 rfl (lv_at hl 0 rfl) ?_
          refine rv_iald hx hb hK hP 4 rfl rfl (by omega) (by omega) dX2_multiplyVector_39 ?_
          refine rv_top (hX j (by omega)) ?_
          refine lv_imul hx hb dX2_multiplyVector_40 ?_
          refine lv_iadd hx hb dX2_multiplyVector_41 ?_
          refine lv_istore_n (lv' := [(2, .int (v + ((M0 i j) * (X j)))), (3, .int (nI j)), (1, .int (nI i)), (0, .ref o)]) hx hb dX2_multiplyVector_42 rfl hl (by decide) rfl (fun ls hl => ?_)
          refine lv_iinc (v := nI (j + 1)) (lv' := [(3, .int (nI (j + 1))), (2, .int (v + ((M0 i j) * (X j)))), (1, .int (nI i)), (0, .ref o)]) hx hb dX2_multiplyVector_43 hl (k := 1) rfl (rv_inc _) (by decide) rfl (fun ls hl => ?_)
          refine lv_goto (tgt := 14) hx hb dX2_multiplyVector_46 (by decide) ?_
          exact ih14 (j + 1) (v + ((M0 i j) * (X j))) _ (by omega) (by rw [hv]; rfl) (lv_sub hl [0, 1, 2, 3] rfl)
      exact L14 _ 0 (nI 0) _ (Nat.zero_add _) (ms_nz) (lv_sub hl [0, 1, 2, 3] rfl)
  exact L2 _ 0 yY _ _ _ (Nat.zero_add _) (fun t ht => absurd ht (Nat.not_lt_zero t)) (hP.sub [0, 1, 2, 3, 4, 5] rfl) (hD.sub [0, 1, 2, 3, 4, 5] (by decide) rfl) hS (lv_sub hl [0, 1] rfl)

set_option maxHeartbeats 4000000 in
set_option maxRecDepth 100000 in
theorem d_build (l : Launch) (D : va_G) (cI : ClassId) (o mo xx yy : Nat) (a : st_A) (u : st_M) (hr : st_rm a u)  : MetI l yX2_build wsX2_build rm_2 D [(cI, .int)] [.ref o] (st_wM cI o mo xx yy a u) (fun (r : Int32) (x : st_A × st_M) => r = an_build a ∧ x.1 = up_build a ∧ st_rm x.1 x.2) (fun x => st_wM cI o mo xx yy x.1 x.2) 0 0 := by
  obtain ⟨⟨K, R, C, S, np⟩, M0, P, X, Y⟩ := a
  obtain ⟨⟨ta, ot⟩, T, O, E, xX, yY⟩ := u
  have hr : st_RM K R C S np M0 P X Y T E xX yY := hr
  obtain ⟨⟨⟨b1, b2, b3, b4, b5, b6, b7, b8⟩, hM⟩, hT, hE, hz0, hX, hY⟩ := id hr
  refine rs_I (cc := cX2_build) (maxL := 3) (rty := .int) (by decide) rfl (Nat.le_of_ble_eq_true rfl) ?_
  intro p e s m args below meth c Q A ls hx hb hml hown hts hP hK hD hS hA hl ret
  have f7 := hts (.fieldLink RX2 7 "RowSparseModel" "table" "[I") (by decide +kernel)
  have f13 := hts (.fieldLink RX2 13 "RowSparseModel" "other" "[I") (by decide +kernel)
  have f16 := hts (.fieldLink RX2 16 "RowSparseModel" "more" "[I") (by decide +kernel)
  have f29 := hts (.fieldLink RX2 29 "RowSparseModel" "rows" "I") (by decide +kernel)
  have f33 := hts (.fieldLink RX2 33 "RowSparseModel" "cols" "I") (by decide +kernel)
  have f47 := hts (.fieldLink RX2 47 "RowSparseModel" "pending" "I") (by decide +kernel)
  have hin2 : ∀ w ∈ u_ws RX2 TX2 9, w ∈ wsX2_build := by decide +kernel
  have hl : lv_has ls 3 [(0, .ref o)] := hl
  have hP : va_P D vwCl [(o, .inr (2, [.int (nI K), .int (nI R), .int (nI C), .int (nI np), .ref ta, .ref ot, .ref mo, .ref xx, .ref yy])), (ta, .inl (cI, 3600, .inl T)), (ot, .inl (cI, 3600, .inl O)), (mo, .inl (cI, 3600, .inl E)), (xx, .inl (cI, 60, .inl xX)), (yy, .inl (cI, 60, .inl yY))] s.heap := hP
  have hD : va_D A [(o, .inr (2, [.int (nI K), .int (nI R), .int (nI C), .int (nI np), .ref ta, .ref ot, .ref mo, .ref xx, .ref yy])), (ta, .inl (cI, 3600, .inl T)), (ot, .inl (cI, 3600, .inl O)), (mo, .inl (cI, 3600, .inl E)), (xx, .inl (cI, 60, .inl xX)), (yy, .inl (cI, 60, .inl yY))] := hD
  refine lv_iconst (v := nI 0) hx hb dX2_build_0 (by decide +kernel) ?_
  refine lv_istore_n (lv' := [(1, .int (nI 0)), (0, .ref o)]) hx hb dX2_build_1 rfl hl (by decide) rfl (fun ls hl => ?_)
  have L2 : ∀ (k2 : Nat) (i : Nat) (O1 : Nat → Int32) (H : Heap) (locs : List Loc) (ls : Array Slot), i + k2 = R → (∀ a b, a < i → b < C → O1 (60 * a + b) = (ms_pl R C M0 P) a b) → va_P D vwCl [(o, .inr (2, [.int (nI K), .int (nI R), .int (nI C), .int (nI np), .ref ta, .ref ot, .ref mo, .ref xx, .ref yy])), (ta, .inl (cI, 3600, .inl T)), (ot, .inl (cI, 3600, .inl O1)), (mo, .inl (cI, 3600, .inl E)), (xx, .inl (cI, 60, .inl xX)), (yy, .inl (cI, 60, .inl yY))] H → va_D A [(o, .inr (2, [.int (nI K), .int (nI R), .int (nI C), .int (nI np), .ref ta, .ref ot, .ref mo, .ref xx, .ref yy])), (ta, .inl (cI, 3600, .inl T)), (ot, .inl (cI, 3600, .inl O1)), (mo, .inl (cI, 3600, .inl E)), (xx, .inl (cI, 60, .inl xX)), (yy, .inl (cI, 60, .inl yY))] → va_S A s.heap H locs → lv_has ls 3 [(1, .int (nI i)), (0, .ref o)] → W p l e rm_2 s m args below meth c H locs 0 0 Q (F0 m 2 ls []) := by
    intro k2
    induction k2 with
    | zero =>
      intro i O1 H locs ls hk2 hO hP hD hS hl
      have hO : ∀ a b, a < R → b < C → O1 (60 * a + b) = (ms_pl R C M0 P) a b := by rw [show i = R by omega] at hO; exact hO
      refine lv_iload_n hx hb dX2_build_2 rfl (lv_at hl 0 rfl) ?_
      refine lv_aload_n hx hb dX2_build_3 rfl (lv_at hl 1 rfl) ?_
      refine va_get (D := D) (ci := 2) (v := .int (nI R)) (C := RX2) (T := TX2) (N := 9) hx hb hts hin2 hown hK hP 0 rfl rfl 1 (by decide) f29 (fun _ h9 => h9) rfl dX2_build_4 ?_
      refine rv_ge_t (tgt := 66) hx hb dX2_build_7 (by decide) (by omega) (by omega) ?_
      refine lv_aload_n hx hb dX2_build_66 rfl (lv_at hl 1 rfl) ?_
      refine rs_cI (As := []) (rest := []) (WR := [(ta, .inl (cI, 3600, .inl T)), (mo, .inl (cI, 3600, .inl E)), (xx, .inl (cI, 60, .inl xX)), (yy, .inl (cI, 60, .inl yY))]) ⟨hx, hb, hml, hown, hts⟩ hl.1 (d_becomes l D cI o K R C np ta ot mo xx yy O1 (by omega) (by omega) b7) (cwV 0 hts gX2_build_X2_becomes rfl rfl rfl (by decide +kernel) ⟨Nat.le_of_ble_eq_true rfl, Nat.le_of_ble_eq_true rfl⟩) hK hP hD hS hA [0, 2] [1, 3, 4, 5] rfl rfl (by decide) (by decide) (by decide) rfl rfl rfl rfl (Nat.le_of_ble_eq_true rfl) dX2_build_67 (Nat.le_of_ble_eq_true rfl) (Nat.le_of_ble_eq_true rfl) (fun r u H locs hu hP hD hS => ?_)
      have hP : va_P D vwCl [(ta, .inl (cI, 3600, .inl T)), (mo, .inl (cI, 3600, .inl E)), (xx, .inl (cI, 60, .inl xX)), (yy, .inl (cI, 60, .inl yY)), (o, .inr (2, [.int (nI K), .int (nI R), .int (nI C), .int (nI np), .ref u.1, .ref u.2, .ref mo, .ref xx, .ref yy])), (ot, .inl (cI, 3600, .inl O1))] H := hP
      have hD : va_D A [(ta, .inl (cI, 3600, .inl T)), (mo, .inl (cI, 3600, .inl E)), (xx, .inl (cI, 60, .inl xX)), (yy, .inl (cI, 60, .inl yY)), (o, .inr (2, [.int (nI K), .int (nI R), .int (nI C), .int (nI np), .ref u.1, .ref u.2, .ref mo, .ref xx, .ref yy])), (ot, .inl (cI, 3600, .inl O1))] := hD
      have ec : ms_sc (fun i j => O1 (60 * i + j)) C R = ms_sc (ms_pl R C M0 P) S R := st_cnt b4 (Nat.le_refl _) (st_pl0) hO
      rw [ec] at hu
      have hsc : ms_sc (ms_pl R C M0 P) S R ≤ 3600 := ms_sc60 (by omega) (by omega)
      rcases hu with ⟨k1, rfl, rfl⟩ | ⟨k1, rfl, rfl⟩
      · have hP : va_P D vwCl [(ta, .inl (cI, 3600, .inl T)), (mo, .inl (cI, 3600, .inl E)), (xx, .inl (cI, 60, .inl xX)), (yy, .inl (cI, 60, .inl yY)), (o, .inr (2, [.int (nI K), .int (nI R), .int (nI C), .int (nI np), .ref ot, .ref ta, .ref mo, .ref xx, .ref yy])), (ot, .inl (cI, 3600, .inl O1))] H := hP
        have hD : va_D A [(ta, .inl (cI, 3600, .inl T)), (mo, .inl (cI, 3600, .inl E)), (xx, .inl (cI, 60, .inl xX)), (yy, .inl (cI, 60, .inl yY)), (o, .inr (2, [.int (nI K), .int (nI R), .int (nI C), .int (nI np), .ref ot, .ref ta, .ref mo, .ref xx, .ref yy])), (ot, .inl (cI, 3600, .inl O1))] := hD
        refine lv_istore_n (lv' := [(1, .int (nI (ms_sc (ms_pl R C M0 P) S R))), (0, .ref o)]) hx hb dX2_build_70 rfl hl (by decide) rfl (fun ls hl => ?_)
        refine lv_iload_n hx hb dX2_build_71 rfl (lv_at hl 0 rfl) ?_
        refine lv_iconst (v := (-1)) hx hb dX2_build_72 (by decide +kernel) ?_
        refine rv_icne_t (tgt := 78) hx hb dX2_build_73 (by decide) (ms_nI_m1 (by omega)) ?_
        refine lv_iconst (v := nI 0) hx hb dX2_build_78 (by decide +kernel) ?_
        refine lv_istore_n (lv' := [(2, .int (nI 0)), (1, .int (nI (ms_sc (ms_pl R C M0 P) S R))), (0, .ref o)]) hx hb dX2_build_79 rfl hl (by decide) rfl (fun ls hl => ?_)
        have L80 : ∀ (k80 : Nat) (k : Nat) (E1 : Nat → Int32) (H : Heap) (locs : List Loc) (ls : Array Slot), k + k80 = 3600 → (∀ t, t < k → E1 t = nI 0) → va_P D vwCl [(o, .inr (2, [.int (nI K), .int (nI R), .int (nI C), .int (nI np), .ref ot, .ref ta, .ref mo, .ref xx, .ref yy])), (ot, .inl (cI, 3600, .inl O1)), (ta, .inl (cI, 3600, .inl T)), (mo, .inl (cI, 3600, .inl E1)), (xx, .inl (cI, 60, .inl xX)), (yy, .inl (cI, 60, .inl yY))] H → va_D A [(o, .inr (2, [.int (nI K), .int (nI R), .int (nI C), .int (nI np), .ref ot, .ref ta, .ref mo, .ref xx, .ref yy])), (ot, .inl (cI, 3600, .inl O1)), (ta, .inl (cI, 3600, .inl T)), (mo, .inl (cI, 3600, .inl E1)), (xx, .inl (cI, 60, .inl xX)), (yy, .inl (cI, 60, .inl yY))] → va_S A s.heap H locs → lv_has ls 3 [(2, .int (nI k)), (1, .int (nI (ms_sc (ms_pl R C M0 P) S R))), (0, .ref o)] → W p l e rm_2 s m args below meth c H locs 0 0 Q (F0 m 80 ls []) := by
          intro k80
          induction k80 with
          | zero =>
            intro k E1 H locs ls hk80 hE1 hP hD hS hl
            refine lv_iload_n hx hb dX2_build_80 rfl (lv_at hl 0 rfl) ?_
            refine lv_sipush (v := nI 3600) hx hb dX2_build_81 (by decide +kernel) ?_
            refine rv_ge_t (tgt := 100) hx hb dX2_build_84 (by decide) (by omega) (by omega) ?_
            refine lv_aload_n hx hb dX2_build_100 rfl (lv_at hl 2 rfl) ?_
            refine lv_iconst (v := nI 0) hx hb dX2_build_101 (by decide +kernel) ?_
            refine va_put (D := D) (ci := 2) (v := .int (nI 0)) (ty := .int) (C := RX2) (T := TX2) (N := 9) hx hb hts hin2 tyX2 tyX2_ok nmX2 hown hK hP hD hS 0 rfl rfl 3 (by decide) f47 (fun _ h9 => h9) rfl (by decide +kernel) rfl rfl (Nat.le_of_ble_eq_true rfl) dX2_build_102 (fun H locs hP hD hS => ?_)
            have hP : va_P D vwCl [(o, .inr (2, [.int (nI K), .int (nI R), .int (nI C), .int (nI 0), .ref ot, .ref ta, .ref mo, .ref xx, .ref yy])), (ot, .inl (cI, 3600, .inl O1)), (ta, .inl (cI, 3600, .inl T)), (mo, .inl (cI, 3600, .inl E1)), (xx, .inl (cI, 60, .inl xX)), (yy, .inl (cI, 60, .inl yY))] H := hP
            have hD : va_D A [(o, .inr (2, [.int (nI K), .int (nI R), .int (nI C), .int (nI 0), .ref ot, .ref ta, .ref mo, .ref xx, .ref yy])), (ot, .inl (cI, 3600, .inl O1)), (ta, .inl (cI, 3600, .inl T)), (mo, .inl (cI, 3600, .inl E1)), (xx, .inl (cI, 60, .inl xX)), (yy, .inl (cI, 60, .inl yY))] := hD
            refine lv_iload_n hx hb dX2_build_105 rfl (lv_at hl 1 rfl) ?_
            exact ret _ _ _ _ _ (((K, R, C, S, 0), (ms_pl R C M0 P), (fun _ _ => 0), X, Y), ((ot, ta), O1, T, (E1, xX, yY))) dX2_build_106 (rfl) (⟨(an_build_t k1).1, (an_build_t k1).2.symm, st_mbuild hr hO (fun t ht => hE1 t (by omega))⟩) (hP.sub [0, 1, 2, 3, 4, 5] rfl) (hD.sub [0, 1, 2, 3, 4, 5] (by decide) rfl) hS
          | succ k80 ih80 =>
            intro k E1 H locs ls hk80 hE1 hP hD hS hl
            refine lv_iload_n hx hb dX2_build_80 rfl (lv_at hl 0 rfl) ?_
            refine lv_sipush (v := nI 3600) hx hb dX2_build_81 (by decide +kernel) ?_
            refine rv_ge_f (tgt := 100) hx hb dX2_build_84 (by decide) (by omega) (by omega) ?_
            refine lv_aload_n hx hb dX2_build_87 rfl (lv_at hl 2 rfl) ?_
            refine va_get (D := D) (ci := 2) (v := .ref mo) (C := RX2) (T := TX2) (N := 9) hx hb hts hin2 hown hK hP 0 rfl rfl 6 (by decide) f16 (fun _ h9 => h9) rfl dX2_build_88 ?_
            refine lv_iload_n hx hb dX2_build_91 rfl (lv_at hl 0 rfl) ?_
            refine lv_iconst (v := nI 0) hx hb dX2_build_92 (by decide +kernel) ?_
            refine rv_iast hx hb hK hP hD hS 3 rfl rfl (by omega) (by omega) dX2_build_93 (fun H locs hP hD hS => ?_)
            have hP : va_P D vwCl [(o, .inr (2, [.int (nI K), .int (nI R), .int (nI C), .int (nI np), .ref ot, .ref ta, .ref mo, .ref xx, .ref yy])), (ot, .inl (cI, 3600, .inl O1)), (ta, .inl (cI, 3600, .inl T)), (mo, .inl (cI, 3600, .inl (upd E1 k (nI 0)))), (xx, .inl (cI, 60, .inl xX)), (yy, .inl (cI, 60, .inl yY))] H := hP
            have hD : va_D A [(o, .inr (2, [.int (nI K), .int (nI R), .int (nI C), .int (nI np), .ref ot, .ref ta, .ref mo, .ref xx, .ref yy])), (ot, .inl (cI, 3600, .inl O1)), (ta, .inl (cI, 3600, .inl T)), (mo, .inl (cI, 3600, .inl (upd E1 k (nI 0)))), (xx, .inl (cI, 60, .inl xX)), (yy, .inl (cI, 60, .inl yY))] := hD
            refine lv_iinc (v := nI (k + 1)) (lv' := [(2, .int (nI (k + 1))), (1, .int (nI (ms_sc (ms_pl R C M0 P) S R))), (0, .ref o)]) hx hb dX2_build_94 hl (k := 0) rfl (rv_inc _) (by decide) rfl (fun ls hl => ?_)
            refine lv_goto (tgt := 80) hx hb dX2_build_97 (by decide) ?_
            exact ih80 (k + 1) (upd E1 k (nI 0)) _ _ _ (by omega) (ms_fillstep hE1) (hP.sub [0, 1, 2, 3, 4, 5] rfl) (hD.sub [0, 1, 2, 3, 4, 5] (by decide) rfl) hS (lv_sub hl [0, 1, 2] rfl)
        exact L80 _ 0 E _ _ _ (Nat.zero_add _) (fun t ht => absurd ht (Nat.not_lt_zero t)) (hP.sub [4, 5, 0, 1, 2, 3] rfl) (hD.sub [4, 5, 0, 1, 2, 3] (by decide) rfl) hS (lv_sub hl [0, 1, 2] rfl)
      · have hP : va_P D vwCl [(ta, .inl (cI, 3600, .inl T)), (mo, .inl (cI, 3600, .inl E)), (xx, .inl (cI, 60, .inl xX)), (yy, .inl (cI, 60, .inl yY)), (o, .inr (2, [.int (nI K), .int (nI R), .int (nI C), .int (nI np), .ref ta, .ref ot, .ref mo, .ref xx, .ref yy])), (ot, .inl (cI, 3600, .inl O1))] H := hP
        have hD : va_D A [(ta, .inl (cI, 3600, .inl T)), (mo, .inl (cI, 3600, .inl E)), (xx, .inl (cI, 60, .inl xX)), (yy, .inl (cI, 60, .inl yY)), (o, .inr (2, [.int (nI K), .int (nI R), .int (nI C), .int (nI np), .ref ta, .ref ot, .ref mo, .ref xx, .ref yy])), (ot, .inl (cI, 3600, .inl O1))] := hD
        refine lv_istore_n (lv' := [(1, .int (-1)), (0, .ref o)]) hx hb dX2_build_70 rfl hl (by decide) rfl (fun ls hl => ?_)
        refine lv_iload_n hx hb dX2_build_71 rfl (lv_at hl 0 rfl) ?_
        refine lv_iconst (v := (-1)) hx hb dX2_build_72 (by decide +kernel) ?_
        refine rv_icne_f (tgt := 78) hx hb dX2_build_73 (by decide) rfl ?_
        refine lv_iconst (v := (-1)) hx hb dX2_build_76 (by decide +kernel) ?_
        exact ret _ _ _ _ _ (((K, R, C, S, np), M0, P, X, Y), ((ta, ot), T, O1, (E, xX, yY))) dX2_build_77 (rfl) (⟨(an_build_f (by omega)).1, (an_build_f (by omega)).2.symm, hr⟩) (hP.sub [4, 0, 5, 1, 2, 3] rfl) (hD.sub [4, 0, 5, 1, 2, 3] (by decide) rfl) hS
    | succ k2 ih2 =>
      intro i O1 H locs ls hk2 hO hP hD hS hl
      refine lv_iload_n hx hb dX2_build_2 rfl (lv_at hl 0 rfl) ?_
      refine lv_aload_n hx hb dX2_build_3 rfl (lv_at hl 1 rfl) ?_
      refine va_get (D := D) (ci := 2) (v := .int (nI R)) (C := RX2) (T := TX2) (N := 9) hx hb hts hin2 hown hK hP 0 rfl rfl 1 (by decide) f29 (fun _ h9 => h9) rfl dX2_build_4 ?_
      refine rv_ge_f (tgt := 66) hx hb dX2_build_7 (by decide) (by omega) (by omega) ?_
      refine lv_iconst (v := nI 0) hx hb dX2_build_10 (by decide +kernel) ?_
      refine lv_istore_n (lv' := [(2, .int (nI 0)), (1, .int (nI i)), (0, .ref o)]) hx hb dX2_build_11 rfl hl (by decide) rfl (fun ls hl => ?_)
      have L12 : ∀ (k12 : Nat) (j : Nat) (O2 : Nat → Int32) (H : Heap) (locs : List Loc) (ls : Array Slot), j + k12 = C → (∀ a b, a < i → b < C → O2 (60 * a + b) = (ms_pl R C M0 P) a b) → (∀ b, b < j → O2 (60 * i + b) = (ms_pl R C M0 P) i b) → va_P D vwCl [(o, .inr (2, [.int (nI K), .int (nI R), .int (nI C), .int (nI np), .ref ta, .ref ot, .ref mo, .ref xx, .ref yy])), (ta, .inl (cI, 3600, .inl T)), (ot, .inl (cI, 3600, .inl O2)), (mo, .inl (cI, 3600, .inl E)), (xx, .inl (cI, 60, .inl xX)), (yy, .inl (cI, 60, .inl yY))] H → va_D A [(o, .inr (2, [.int (nI K), .int (nI R), .int (nI C), .int (nI np), .ref ta, .ref ot, .ref mo, .ref xx, .ref yy])), (ta, .inl (cI, 3600, .inl T)), (ot, .inl (cI, 3600, .inl O2)), (mo, .inl (cI, 3600, .inl E)), (xx, .inl (cI, 60, .inl xX)), (yy, .inl (cI, 60, .inl yY))] → va_S A s.heap H locs → lv_has ls 3 [(2, .int (nI j)), (1, .int (nI i)), (0, .ref o)] → W p l e rm_2 s m args below meth c H locs 0 0 Q (F0 m 12 ls []) := by
        intro k12
        induction k12 with
        | zero =>
          intro j O2 H locs ls hk12 h1 h2 hP hD hS hl
          refine lv_iload_n hx hb dX2_build_12 rfl (lv_at hl 0 rfl) ?_
          refine lv_aload_n hx hb dX2_build_13 rfl (lv_at hl 2 rfl) ?_
          refine va_get (D := D) (ci := 2) (v := .int (nI C)) (C := RX2) (T := TX2) (N := 9) hx hb hts hin2 hown hK hP 0 rfl rfl 2 (by decide) f33 (fun _ h9 => h9) rfl dX2_build_14 ?_
          refine rv_ge_t (tgt := 60) hx hb dX2_build_17 (by decide) (by omega) (by omega) ?_
          refine lv_iinc (v := nI (i + 1)) (lv' := [(1, .int (nI (i + 1))), (2, .int (nI j)), (0, .ref o)]) hx hb dX2_build_60 hl (k := 1) rfl (rv_inc _) (by decide) rfl (fun ls hl => ?_)
          refine lv_goto (tgt := 2) hx hb dX2_build_63 (by decide) ?_
          exact ih2 (i + 1) O2 _ _ _ (by omega) (ms_gridrow (show j = C by omega) h1 h2) (hP.sub [0, 1, 2, 3, 4, 5] rfl) (hD.sub [0, 1, 2, 3, 4, 5] (by decide) rfl) hS (lv_sub hl [0, 2] rfl)
        | succ k12 ih12 =>
          intro j O2 H locs ls hk12 h1 h2 hP hD hS hl
          have hx1 : M0 i j + P i j = (ms_pl R C M0 P) i j := (if_pos ⟨by omega, by omega⟩).symm
          refine lv_iload_n hx hb dX2_build_12 rfl (lv_at hl 0 rfl) ?_
          refine lv_aload_n hx hb dX2_build_13 rfl (lv_at hl 2 rfl) ?_
          refine va_get (D := D) (ci := 2) (v := .int (nI C)) (C := RX2) (T := TX2) (N := 9) hx hb hts hin2 hown hK hP 0 rfl rfl 2 (by decide) f33 (fun _ h9 => h9) rfl dX2_build_14 ?_
          refine rv_ge_f (tgt := 60) hx hb dX2_build_17 (by decide) (by omega) (by omega) ?_
          refine lv_aload_n hx hb dX2_build_20 rfl (lv_at hl 2 rfl) ?_
          refine va_get (D := D) (ci := 2) (v := .ref ot) (C := RX2) (T := TX2) (N := 9) hx hb hts hin2 hown hK hP 0 rfl rfl 5 (by decide) f13 (fun _ h9 => h9) rfl dX2_build_21 ?_
          refine lv_bipush (v := nI 60) hx hb dX2_build_24 (by decide +kernel) ?_
          refine lv_iload_n hx hb dX2_build_26 rfl (lv_at hl 1 rfl) ?_
          refine rv_imul hx hb dX2_build_27 ?_
          refine lv_iload_n hx hb dX2_build_28 rfl (lv_at hl 0 rfl) ?_
          refine rv_iadd hx hb dX2_build_29 ?_
          refine lv_aload_n hx hb dX2_build_30 rfl (lv_at hl 2 rfl) ?_
          refine va_get (D := D) (ci := 2) (v := .ref ta) (C := RX2) (T := TX2) (N := 9) hx hb hts hin2 hown hK hP 0 rfl rfl 4 (by decide) f7 (fun _ h9 => h9) rfl dX2_build_31 ?_
          refine lv_bipush (v := nI 60) hx hb dX2_build_34 (by decide +kernel) ?_
          refine lv_iload_n hx hb dX2_build_36 rfl (lv_at hl 1 rfl) ?_
          refine rv_imul hx hb dX2_build_37 ?_
          refine lv_iload_n hx hb dX2_build_38 rfl (lv_at hl 0 rfl) ?_
          refine rv_iadd hx hb dX2_build_39 ?_
          refine rv_iald hx hb hK hP 1 rfl rfl (by omega) (by omega) dX2_build_40 ?_
          refine rv_top (hT i j (by omega) (by omega)) ?_
          refine lv_aload_n hx hb dX2_build_41 rfl (lv_at hl 2 rfl) ?_
          refine va_get (D := D) (ci := 2) (v := .ref mo) (C := RX2) (T := TX2) (N := 9) hx hb hts hin2 hown hK hP 0 rfl rfl 6 (by decide) f16 (fun _ h9 => h9) rfl dX2_build_42 ?_
          refine lv_bipush (v := nI 60) hx hb dX2_build_45 (by decide +kernel) ?_
          refine lv_iload_n hx hb dX2_build_47 rfl (lv_at hl 1 rfl) ?_
          refine rv_imul hx hb dX2_build_48 ?_
          refine lv_iload_n hx hb dX2_build_49 rfl (lv_at hl 0 rfl) ?_
          refine rv_iadd hx hb dX2_build_50 ?_
          refine rv_iald hx hb hK hP 3 rfl rfl (by omega) (by omega) dX2_build_51 ?_
          refine rv_top (hE i j (by omega) (by omega)) ?_
          refine lv_iadd hx hb dX2_build_52 ?_
          refine rv_iast hx hb hK hP hD hS 2 rfl rfl (by omega) (by omega) dX2_build_53 (fun H locs hP hD hS => ?_)
          have hP : va_P D vwCl [(o, .inr (2, [.int (nI K), .int (nI R), .int (nI C), .int (nI np), .ref ta, .ref ot, .ref mo, .ref xx, .ref yy])), (ta, .inl (cI, 3600, .inl T)), (ot, .inl (cI, 3600, .inl (upd O2 (60 * i + j) ((M0 i j) + (P i j))))), (mo, .inl (cI, 3600, .inl E)), (xx, .inl (cI, 60, .inl xX)), (yy, .inl (cI, 60, .inl yY))] H := hP
          have hD : va_D A [(o, .inr (2, [.int (nI K), .int (nI R), .int (nI C), .int (nI np), .ref ta, .ref ot, .ref mo, .ref xx, .ref yy])), (ta, .inl (cI, 3600, .inl T)), (ot, .inl (cI, 3600, .inl (upd O2 (60 * i + j) ((M0 i j) + (P i j))))), (mo, .inl (cI, 3600, .inl E)), (xx, .inl (cI, 60, .inl xX)), (yy, .inl (cI, 60, .inl yY))] := hD
          refine lv_iinc (v := nI (j + 1)) (lv' := [(2, .int (nI (j + 1))), (1, .int (nI i)), (0, .ref o)]) hx hb dX2_build_54 hl (k := 0) rfl (rv_inc _) (by decide) rfl (fun ls hl => ?_)
          refine lv_goto (tgt := 12) hx hb dX2_build_57 (by decide) ?_
          exact ih12 (j + 1) (upd O2 (60 * i + j) ((M0 i j) + (P i j))) _ _ _ (by omega) ((ms_grid (by omega) (show j < C by omega) h1 h2 hx1).1) ((ms_grid (by omega) (show j < C by omega) h1 h2 hx1).2) (hP.sub [0, 1, 2, 3, 4, 5] rfl) (hD.sub [0, 1, 2, 3, 4, 5] (by decide) rfl) hS (lv_sub hl [0, 1, 2] rfl)
      exact L12 _ 0 O1 _ _ _ (Nat.zero_add _) (hO) (fun b hb => absurd hb (Nat.not_lt_zero b)) (hP.sub [0, 1, 2, 3, 4, 5] rfl) (hD.sub [0, 1, 2, 3, 4, 5] (by decide) rfl) hS (lv_sub hl [0, 1, 2] rfl)
  exact L2 _ 0 O _ _ _ (Nat.zero_add _) (fun a b ha => absurd ha (Nat.not_lt_zero a)) (hP.sub [0, 1, 2, 3, 4, 5] rfl) (hD.sub [0, 1, 2, 3, 4, 5] (by decide) rfl) hS (lv_sub hl [0, 1] rfl)

set_option maxHeartbeats 4000000 in
set_option maxRecDepth 100000 in
theorem d_square (l : Launch) (D : va_G) (cI : ClassId) (o mo xx yy : Nat) (a : st_A) (u : st_M) (hr : st_rm a u)  : MetI l yX2_square wsX2_square rm_2 D [(cI, .int)] [.ref o] (st_wM cI o mo xx yy a u) (fun (r : Int32) (x : st_A × st_M) => r = an_square a ∧ x.1 = up_square a ∧ st_rm x.1 x.2) (fun x => st_wM cI o mo xx yy x.1 x.2) 0 0 := by
  obtain ⟨⟨K, R, C, S, np⟩, M0, P, X, Y⟩ := a
  obtain ⟨⟨ta, ot⟩, T, O, E, xX, yY⟩ := u
  have hr : st_RM K R C S np M0 P X Y T E xX yY := hr
  obtain ⟨⟨⟨b1, b2, b3, b4, b5, b6, b7, b8⟩, hM⟩, hT, hE, hz0, hX, hY⟩ := id hr
  refine rs_I (cc := cX2_square) (maxL := 5) (rty := .int) (by decide) rfl (Nat.le_of_ble_eq_true rfl) ?_
  intro p e s m args below meth c Q A ls hx hb hml hown hts hP hK hD hS hA hl ret
  have f7 := hts (.fieldLink RX2 7 "RowSparseModel" "table" "[I") (by decide +kernel)
  have f13 := hts (.fieldLink RX2 13 "RowSparseModel" "other" "[I") (by decide +kernel)
  have f29 := hts (.fieldLink RX2 29 "RowSparseModel" "rows" "I") (by decide +kernel)
  have f33 := hts (.fieldLink RX2 33 "RowSparseModel" "cols" "I") (by decide +kernel)
  have hin2 : ∀ w ∈ u_ws RX2 TX2 9, w ∈ wsX2_square := by decide +kernel
  have hl : lv_has ls 5 [(0, .ref o)] := hl
  have hP : va_P D vwCl [(o, .inr (2, [.int (nI K), .int (nI R), .int (nI C), .int (nI np), .ref ta, .ref ot, .ref mo, .ref xx, .ref yy])), (ta, .inl (cI, 3600, .inl T)), (ot, .inl (cI, 3600, .inl O)), (mo, .inl (cI, 3600, .inl E)), (xx, .inl (cI, 60, .inl xX)), (yy, .inl (cI, 60, .inl yY))] s.heap := hP
  have hD : va_D A [(o, .inr (2, [.int (nI K), .int (nI R), .int (nI C), .int (nI np), .ref ta, .ref ot, .ref mo, .ref xx, .ref yy])), (ta, .inl (cI, 3600, .inl T)), (ot, .inl (cI, 3600, .inl O)), (mo, .inl (cI, 3600, .inl E)), (xx, .inl (cI, 60, .inl xX)), (yy, .inl (cI, 60, .inl yY))] := hD
  refine lv_aload_n hx hb dX2_square_0 rfl (lv_at hl 0 rfl) ?_
  refine va_get (D := D) (ci := 2) (v := .int (nI R)) (C := RX2) (T := TX2) (N := 9) hx hb hts hin2 hown hK hP 0 rfl rfl 1 (by decide) f29 (fun _ h9 => h9) rfl dX2_square_1 ?_
  refine lv_aload_n hx hb dX2_square_4 rfl (lv_at hl 0 rfl) ?_
  refine va_get (D := D) (ci := 2) (v := .int (nI C)) (C := RX2) (T := TX2) (N := 9) hx hb hts hin2 hown hK hP 0 rfl rfl 2 (by decide) f33 (fun _ h9 => h9) rfl dX2_square_5 ?_
  refine rv_eq (tgt := 14) hx hb dX2_square_8 (by decide) (by omega) (by omega) (fun hRC => ?_) (fun hRC => ?_)
  · refine lv_iconst (v := nI 0) hx hb dX2_square_14 (by decide +kernel) ?_
    refine lv_istore_n (lv' := [(1, .int (nI 0)), (0, .ref o)]) hx hb dX2_square_15 rfl hl (by decide) rfl (fun ls hl => ?_)
    have L16 : ∀ (k16 : Nat) (i : Nat) (O1 : Nat → Int32) (H : Heap) (locs : List Loc) (ls : Array Slot), i + k16 = R → (∀ a b, a < i → b < C → O1 (60 * a + b) = (ms_sq S M0) a b) → va_P D vwCl [(o, .inr (2, [.int (nI K), .int (nI R), .int (nI C), .int (nI np), .ref ta, .ref ot, .ref mo, .ref xx, .ref yy])), (ta, .inl (cI, 3600, .inl T)), (ot, .inl (cI, 3600, .inl O1)), (mo, .inl (cI, 3600, .inl E)), (xx, .inl (cI, 60, .inl xX)), (yy, .inl (cI, 60, .inl yY))] H → va_D A [(o, .inr (2, [.int (nI K), .int (nI R), .int (nI C), .int (nI np), .ref ta, .ref ot, .ref mo, .ref xx, .ref yy])), (ta, .inl (cI, 3600, .inl T)), (ot, .inl (cI, 3600, .inl O1)), (mo, .inl (cI, 3600, .inl E)), (xx, .inl (cI, 60, .inl xX)), (yy, .inl (cI, 60, .inl yY))] → va_S A s.heap H locs → lv_has ls 5 [(1, .int (nI i)), (0, .ref o)] → W p l e rm_2 s m args below meth c H locs 0 0 Q (F0 m 16 ls []) := by
      intro k16
      induction k16 with
      | zero =>
        intro i O1 H locs ls hk16 hO hP hD hS hl
        have hO : ∀ a b, a < R → b < C → O1 (60 * a + b) = (ms_sq S M0) a b := by rw [show i = R by omega] at hO; exact hO
        refine lv_iload_n hx hb dX2_square_16 rfl (lv_at hl 0 rfl) ?_
        refine lv_aload_n hx hb dX2_square_17 rfl (lv_at hl 1 rfl) ?_
        refine va_get (D := D) (ci := 2) (v := .int (nI R)) (C := RX2) (T := TX2) (N := 9) hx hb hts hin2 hown hK hP 0 rfl rfl 1 (by decide) f29 (fun _ h9 => h9) rfl dX2_square_18 ?_
        refine rv_ge_t (tgt := 106) hx hb dX2_square_21 (by decide) (by omega) (by omega) ?_
        refine lv_aload_n hx hb dX2_square_106 rfl (lv_at hl 1 rfl) ?_
        refine rs_cI (As := []) (rest := []) (WR := [(ta, .inl (cI, 3600, .inl T)), (mo, .inl (cI, 3600, .inl E)), (xx, .inl (cI, 60, .inl xX)), (yy, .inl (cI, 60, .inl yY))]) ⟨hx, hb, hml, hown, hts⟩ hl.1 (d_becomes l D cI o K R C np ta ot mo xx yy O1 (by omega) (by omega) b7) (cwV 0 hts gX2_square_X2_becomes rfl rfl rfl (by decide +kernel) ⟨Nat.le_of_ble_eq_true rfl, Nat.le_of_ble_eq_true rfl⟩) hK hP hD hS hA [0, 2] [1, 3, 4, 5] rfl rfl (by decide) (by decide) (by decide) rfl rfl rfl rfl (Nat.le_of_ble_eq_true rfl) dX2_square_107 (Nat.le_of_ble_eq_true rfl) (Nat.le_of_ble_eq_true rfl) (fun r u H locs hu hP hD hS => ?_)
        have hP : va_P D vwCl [(ta, .inl (cI, 3600, .inl T)), (mo, .inl (cI, 3600, .inl E)), (xx, .inl (cI, 60, .inl xX)), (yy, .inl (cI, 60, .inl yY)), (o, .inr (2, [.int (nI K), .int (nI R), .int (nI C), .int (nI np), .ref u.1, .ref u.2, .ref mo, .ref xx, .ref yy])), (ot, .inl (cI, 3600, .inl O1))] H := hP
        have hD : va_D A [(ta, .inl (cI, 3600, .inl T)), (mo, .inl (cI, 3600, .inl E)), (xx, .inl (cI, 60, .inl xX)), (yy, .inl (cI, 60, .inl yY)), (o, .inr (2, [.int (nI K), .int (nI R), .int (nI C), .int (nI np), .ref u.1, .ref u.2, .ref mo, .ref xx, .ref yy])), (ot, .inl (cI, 3600, .inl O1))] := hD
        have ec : ms_sc (fun i j => O1 (60 * i + j)) C R = ms_sc (ms_sq S M0) S R := st_cnt b4 (Nat.le_refl _) (st_sq0 hM) hO
        rw [ec] at hu
        have hsc : ms_sc (ms_sq S M0) S R ≤ 3600 := ms_sc60 (by omega) (by omega)
        rcases hu with ⟨k1, rfl, rfl⟩ | ⟨k1, rfl, rfl⟩
        · have hP : va_P D vwCl [(ta, .inl (cI, 3600, .inl T)), (mo, .inl (cI, 3600, .inl E)), (xx, .inl (cI, 60, .inl xX)), (yy, .inl (cI, 60, .inl yY)), (o, .inr (2, [.int (nI K), .int (nI R), .int (nI C), .int (nI np), .ref ot, .ref ta, .ref mo, .ref xx, .ref yy])), (ot, .inl (cI, 3600, .inl O1))] H := hP
          have hD : va_D A [(ta, .inl (cI, 3600, .inl T)), (mo, .inl (cI, 3600, .inl E)), (xx, .inl (cI, 60, .inl xX)), (yy, .inl (cI, 60, .inl yY)), (o, .inr (2, [.int (nI K), .int (nI R), .int (nI C), .int (nI np), .ref ot, .ref ta, .ref mo, .ref xx, .ref yy])), (ot, .inl (cI, 3600, .inl O1))] := hD
          exact ret _ _ _ _ _ (((K, R, C, S, np), (ms_sq S M0), P, X, Y), ((ot, ta), O1, T, (E, xX, yY))) dX2_square_110 (rfl) (⟨(an_square_t hRC k1).1, (an_square_t hRC k1).2.symm, st_msquare hr hO⟩) (hP.sub [4, 5, 0, 1, 2, 3] rfl) (hD.sub [4, 5, 0, 1, 2, 3] (by decide) rfl) hS
        · have hP : va_P D vwCl [(ta, .inl (cI, 3600, .inl T)), (mo, .inl (cI, 3600, .inl E)), (xx, .inl (cI, 60, .inl xX)), (yy, .inl (cI, 60, .inl yY)), (o, .inr (2, [.int (nI K), .int (nI R), .int (nI C), .int (nI np), .ref ta, .ref ot, .ref mo, .ref xx, .ref yy])), (ot, .inl (cI, 3600, .inl O1))] H := hP
          have hD : va_D A [(ta, .inl (cI, 3600, .inl T)), (mo, .inl (cI, 3600, .inl E)), (xx, .inl (cI, 60, .inl xX)), (yy, .inl (cI, 60, .inl yY)), (o, .inr (2, [.int (nI K), .int (nI R), .int (nI C), .int (nI np), .ref ta, .ref ot, .ref mo, .ref xx, .ref yy])), (ot, .inl (cI, 3600, .inl O1))] := hD
          exact ret _ _ _ _ _ (((K, R, C, S, np), M0, P, X, Y), ((ta, ot), T, O1, (E, xX, yY))) dX2_square_110 (rfl) (⟨(an_square_f hRC (by omega)).1, (an_square_f hRC (by omega)).2.symm, hr⟩) (hP.sub [4, 0, 5, 1, 2, 3] rfl) (hD.sub [4, 0, 5, 1, 2, 3] (by decide) rfl) hS
      | succ k16 ih16 =>
        intro i O1 H locs ls hk16 hO hP hD hS hl
        refine lv_iload_n hx hb dX2_square_16 rfl (lv_at hl 0 rfl) ?_
        refine lv_aload_n hx hb dX2_square_17 rfl (lv_at hl 1 rfl) ?_
        refine va_get (D := D) (ci := 2) (v := .int (nI R)) (C := RX2) (T := TX2) (N := 9) hx hb hts hin2 hown hK hP 0 rfl rfl 1 (by decide) f29 (fun _ h9 => h9) rfl dX2_square_18 ?_
        refine rv_ge_f (tgt := 106) hx hb dX2_square_21 (by decide) (by omega) (by omega) ?_
        refine lv_iconst (v := nI 0) hx hb dX2_square_24 (by decide +kernel) ?_
        refine lv_istore_n (lv' := [(2, .int (nI 0)), (1, .int (nI i)), (0, .ref o)]) hx hb dX2_square_25 rfl hl (by decide) rfl (fun ls hl => ?_)
        have L26 : ∀ (k26 : Nat) (j : Nat) (O2 : Nat → Int32) (H : Heap) (locs : List Loc) (ls : Array Slot), j + k26 = C → (∀ a b, a < i → b < C → O2 (60 * a + b) = (ms_sq S M0) a b) → (∀ b, b < j → O2 (60 * i + b) = (ms_sq S M0) i b) → va_P D vwCl [(o, .inr (2, [.int (nI K), .int (nI R), .int (nI C), .int (nI np), .ref ta, .ref ot, .ref mo, .ref xx, .ref yy])), (ta, .inl (cI, 3600, .inl T)), (ot, .inl (cI, 3600, .inl O2)), (mo, .inl (cI, 3600, .inl E)), (xx, .inl (cI, 60, .inl xX)), (yy, .inl (cI, 60, .inl yY))] H → va_D A [(o, .inr (2, [.int (nI K), .int (nI R), .int (nI C), .int (nI np), .ref ta, .ref ot, .ref mo, .ref xx, .ref yy])), (ta, .inl (cI, 3600, .inl T)), (ot, .inl (cI, 3600, .inl O2)), (mo, .inl (cI, 3600, .inl E)), (xx, .inl (cI, 60, .inl xX)), (yy, .inl (cI, 60, .inl yY))] → va_S A s.heap H locs → lv_has ls 5 [(2, .int (nI j)), (1, .int (nI i)), (0, .ref o)] → W p l e rm_2 s m args below meth c H locs 0 0 Q (F0 m 26 ls []) := by
          intro k26
          induction k26 with
          | zero =>
            intro j O2 H locs ls hk26 h1 h2 hP hD hS hl
            refine lv_iload_n hx hb dX2_square_26 rfl (lv_at hl 0 rfl) ?_
            refine lv_aload_n hx hb dX2_square_27 rfl (lv_at hl 2 rfl) ?_
            refine va_get (D := D) (ci := 2) (v := .int (nI C)) (C := RX2) (T := TX2) (N := 9) hx hb hts hin2 hown hK hP 0 rfl rfl 2 (by decide) f33 (fun _ h9 => h9) rfl dX2_square_28 ?_
            refine rv_ge_t (tgt := 100) hx hb dX2_square_31 (by decide) (by omega) (by omega) ?_
            refine lv_iinc (v := nI (i + 1)) (lv' := [(1, .int (nI (i + 1))), (2, .int (nI j)), (0, .ref o)]) hx hb dX2_square_100 hl (k := 1) rfl (rv_inc _) (by decide) rfl (fun ls hl => ?_)
            refine lv_goto (tgt := 16) hx hb dX2_square_103 (by decide) ?_
            exact ih16 (i + 1) O2 _ _ _ (by omega) (ms_gridrow (show j = C by omega) h1 h2) (hP.sub [0, 1, 2, 3, 4, 5] rfl) (hD.sub [0, 1, 2, 3, 4, 5] (by decide) rfl) hS (lv_sub hl [0, 2] rfl)
          | succ k26 ih26 =>
            intro j O2 H locs ls hk26 h1 h2 hP hD hS hl
            refine lv_iload_n hx hb dX2_square_26 rfl (lv_at hl 0 rfl) ?_
            refine lv_aload_n hx hb dX2_square_27 rfl (lv_at hl 2 rfl) ?_
            refine va_get (D := D) (ci := 2) (v := .int (nI C)) (C := RX2) (T := TX2) (N := 9) hx hb hts hin2 hown hK hP 0 rfl rfl 2 (by decide) f33 (fun _ h9 => h9) rfl dX2_square_28 ?_
            refine rv_ge_f (tgt := 100) hx hb dX2_square_31 (by decide) (by omega) (by omega) ?_
            refine lv_iconst (v := nI 0) hx hb dX2_square_34 (by decide +kernel) ?_
            refine lv_istore_n (lv' := [(3, .int (nI 0)), (2, .int (nI j)), (1, .int (nI i)), (0, .ref o)]) hx hb dX2_square_35 rfl hl (by decide) rfl (fun ls hl => ?_)
            refine lv_iconst (v := nI 0) hx hb dX2_square_36 (by decide +kernel) ?_
            refine lv_istore (lv' := [(4, .int (nI 0)), (3, .int (nI 0)), (2, .int (nI j)), (1, .int (nI i)), (0, .ref o)]) hx hb dX2_square_37 hl (by decide) rfl (fun ls hl => ?_)
            have L39 : ∀ (k39 : Nat) (k : Nat) (v : Int32) (ls : Array Slot), k + k39 = C → v = ms_sm (fun k => M0 i k * M0 k j) k → lv_has ls 5 [(4, .int (nI k)), (3, .int v), (2, .int (nI j)), (1, .int (nI i)), (0, .ref o)] → W p l e rm_2 s m args below meth c H locs 0 0 Q (F0 m 39 ls []) := by
              intro k39
              induction k39 with
              | zero =>
                intro k v ls hk39 hv hl
                have hx1 : v = (ms_sq S M0) i j := by rw [hv, show k = C by omega]; exact st_sqwide b4 hM
                refine lv_iload hx hb dX2_square_39 (lv_at hl 0 rfl) ?_
                refine lv_aload_n hx hb dX2_square_41 rfl (lv_at hl 4 rfl) ?_
                refine va_get (D := D) (ci := 2) (v := .int (nI C)) (C := RX2) (T := TX2) (N := 9) hx hb hts hin2 hown hK hP 0 rfl rfl 2 (by decide) f33 (fun _ h9 => h9) rfl dX2_square_42 ?_
                refine rv_ge_t (tgt := 82) hx hb dX2_square_45 (by decide) (by omega) (by omega) ?_
                refine lv_aload_n hx hb dX2_square_82 rfl (lv_at hl 4 rfl) ?_
                refine va_get (D := D) (ci := 2) (v := .ref ot) (C := RX2) (T := TX2) (N := 9) hx hb hts hin2 hown hK hP 0 rfl rfl 5 (by decide) f13 (fun _ h9 => h9) rfl dX2_square_83 ?_
                refine lv_bipush (v := nI 60) hx hb dX2_square_86 (by decide +kernel) ?_
                refine lv_iload_n hx hb dX2_square_88 rfl (lv_at hl 3 rfl) ?_
                refine rv_imul hx hb dX2_square_89 ?_
                refine lv_iload_n hx hb dX2_square_90 rfl (lv_at hl 2 rfl) ?_
                refine rv_iadd hx hb dX2_square_91 ?_
                refine lv_iload_n hx hb dX2_square_92 rfl (lv_at hl 1 rfl) ?_
                refine rv_iast hx hb hK hP hD hS 2 rfl rfl (by omega) (by omega) dX2_square_93 (fun H locs hP hD hS => ?_)
                have hP : va_P D vwCl [(o, .inr (2, [.int (nI K), .int (nI R), .int (nI C), .int (nI np), .ref ta, .ref ot, .ref mo, .ref xx, .ref yy])), (ta, .inl (cI, 3600, .inl T)), (ot, .inl (cI, 3600, .inl (upd O2 (60 * i + j) v))), (mo, .inl (cI, 3600, .inl E)), (xx, .inl (cI, 60, .inl xX)), (yy, .inl (cI, 60, .inl yY))] H := hP
                have hD : va_D A [(o, .inr (2, [.int (nI K), .int (nI R), .int (nI C), .int (nI np), .ref ta, .ref ot, .ref mo, .ref xx, .ref yy])), (ta, .inl (cI, 3600, .inl T)), (ot, .inl (cI, 3600, .inl (upd O2 (60 * i + j) v))), (mo, .inl (cI, 3600, .inl E)), (xx, .inl (cI, 60, .inl xX)), (yy, .inl (cI, 60, .inl yY))] := hD
                refine lv_iinc (v := nI (j + 1)) (lv' := [(2, .int (nI (j + 1))), (4, .int (nI k)), (3, .int v), (1, .int (nI i)), (0, .ref o)]) hx hb dX2_square_94 hl (k := 2) rfl (rv_inc _) (by decide) rfl (fun ls hl => ?_)
                refine lv_goto (tgt := 26) hx hb dX2_square_97 (by decide) ?_
                exact ih26 (j + 1) (upd O2 (60 * i + j) v) _ _ _ (by omega) ((ms_grid (by omega) (show j < C by omega) h1 h2 hx1).1) ((ms_grid (by omega) (show j < C by omega) h1 h2 hx1).2) (hP.sub [0, 1, 2, 3, 4, 5] rfl) (hD.sub [0, 1, 2, 3, 4, 5] (by decide) rfl) hS (lv_sub hl [0, 3, 4] rfl)
              | succ k39 ih39 =>
                intro k v ls hk39 hv hl
                refine lv_iload hx hb dX2_square_39 (lv_at hl 0 rfl) ?_
                refine lv_aload_n hx hb dX2_square_41 rfl (lv_at hl 4 rfl) ?_
                refine va_get (D := D) (ci := 2) (v := .int (nI C)) (C := RX2) (T := TX2) (N := 9) hx hb hts hin2 hown hK hP 0 rfl rfl 2 (by decide) f33 (fun _ h9 => h9) rfl dX2_square_42 ?_
                refine rv_ge_f (tgt := 82) hx hb dX2_square_45 (by decide) (by omega) (by omega) ?_
                refine lv_iload_n hx hb dX2_square_48 rfl (lv_at hl 1 rfl) ?_
                refine lv_aload_n hx hb dX2_square_49 rfl (lv_at hl 4 rfl) ?_
                refine va_get (D := D) (ci := 2) (v := .ref ta) (C := RX2) (T := TX2) (N := 9) hx hb hts hin2 hown hK hP 0 rfl rfl 4 (by decide) f7 (fun _ h9 => h9) rfl dX2_square_50 ?_
                refine lv_bipush (v := nI 60) hx hb dX2_square_53 (by decide +kernel) ?_
                refine lv_iload_n hx hb dX2_square_55 rfl (lv_at hl 3 rfl) ?_
                refine rv_imul hx hb dX2_square_56 ?_
                refine lv_iload hx hb dX2_square_57 (lv_at hl 0 rfl) ?_
                refine rv_iadd hx hb dX2_square_59 ?_
                refine rv_iald hx hb hK hP 1 rfl rfl (by omega) (by omega) dX2_square_60 ?_
                refine rv_top (hT i k (by omega) (by omega)) ?_
                refine lv_aload_n hx hb dX2_square_61 rfl (lv_at hl 4 rfl) ?_
                refine va_get (D := D) (ci := 2) (v := .ref ta) (C := RX2) (T := TX2) (N := 9) hx hb hts hin2 hown hK hP 0 rfl rfl 4 (by decide) f7 (fun _ h9 => h9) rfl dX2_square_62 ?_
                refine lv_bipush (v := nI 60) hx hb dX2_square_65 (by decide +kernel) ?_
                refine lv_iload hx hb dX2_square_67 (lv_at hl 0 rfl) ?_
                refine rv_imul hx hb dX2_square_69 ?_
                refine lv_iload_n hx hb dX2_square_70 rfl (lv_at hl 2 rfl) ?_
                refine rv_iadd hx hb dX2_square_71 ?_
                refine rv_iald hx hb hK hP 1 rfl rfl (by omega) (by omega) dX2_square_72 ?_
                refine rv_top (hT k j (by omega) (by omega)) ?_
                refine lv_imul hx hb dX2_square_73 ?_
                refine lv_iadd hx hb dX2_square_74 ?_
                refine lv_istore_n (lv' := [(3, .int (v + ((M0 i k) * (M0 k j)))), (4, .int (nI k)), (2, .int (nI j)), (1, .int (nI i)), (0, .ref o)]) hx hb dX2_square_75 rfl hl (by decide) rfl (fun ls hl => ?_)
                refine lv_iinc (v := nI (k + 1)) (lv' := [(4, .int (nI (k + 1))), (3, .int (v + ((M0 i k) * (M0 k j)))), (2, .int (nI j)), (1, .int (nI i)), (0, .ref o)]) hx hb dX2_square_76 hl (k := 1) rfl (rv_inc _) (by decide) rfl (fun ls hl => ?_)
                refine lv_goto (tgt := 39) hx hb dX2_square_79 (by decide) ?_
                exact ih39 (k + 1) (v + ((M0 i k) * (M0 k j))) _ (by omega) (by rw [hv]; rfl) (lv_sub hl [0, 1, 2, 3, 4] rfl)
            exact L39 _ 0 (nI 0) _ (Nat.zero_add _) (ms_nz) (lv_sub hl [0, 1, 2, 3, 4] rfl)
        exact L26 _ 0 O1 _ _ _ (Nat.zero_add _) (hO) (fun b hb => absurd hb (Nat.not_lt_zero b)) (hP.sub [0, 1, 2, 3, 4, 5] rfl) (hD.sub [0, 1, 2, 3, 4, 5] (by decide) rfl) hS (lv_sub hl [0, 1, 2] rfl)
    exact L16 _ 0 O _ _ _ (Nat.zero_add _) (fun a b ha => absurd ha (Nat.not_lt_zero a)) (hP.sub [0, 1, 2, 3, 4, 5] rfl) (hD.sub [0, 1, 2, 3, 4, 5] (by decide) rfl) hS (lv_sub hl [0, 1] rfl)
  · refine lv_bipush (v := (-2)) hx hb dX2_square_11 (by decide +kernel) ?_
    exact ret _ _ _ _ _ (((K, R, C, S, np), M0, P, X, Y), ((ta, ot), T, O, (E, xX, yY))) dX2_square_13 (rfl) (⟨(an_square_n hRC).1, (an_square_n hRC).2.symm, hr⟩) (hP.sub [0, 1, 2, 3, 4, 5] rfl) (hD.sub [0, 1, 2, 3, 4, 5] (by decide) rfl) hS

set_option maxHeartbeats 4000000 in
set_option maxRecDepth 100000 in
theorem d_transpose (l : Launch) (D : va_G) (cI : ClassId) (o mo xx yy : Nat) (a : st_A) (u : st_M) (hr : st_rm a u)  : MetI l yX2_transpose wsX2_transpose rm_1 D [(cI, .int)] [.ref o] (st_wM cI o mo xx yy a u) (fun (r : Int32) (x : st_A × st_M) => r = an_turn a ∧ x.1 = up_turn a ∧ st_rm x.1 x.2) (fun x => st_wM cI o mo xx yy x.1 x.2) 0 0 := by
  obtain ⟨⟨K, R, C, S, np⟩, M0, P, X, Y⟩ := a
  obtain ⟨⟨ta, ot⟩, T, O, E, xX, yY⟩ := u
  have hr : st_RM K R C S np M0 P X Y T E xX yY := hr
  obtain ⟨⟨⟨b1, b2, b3, b4, b5, b6, b7, b8⟩, hM⟩, hT, hE, hz0, hX, hY⟩ := id hr
  refine rs_I (cc := cX2_transpose) (maxL := 3) (rty := .boolean) (by decide) rfl (Nat.le_of_ble_eq_true rfl) ?_
  intro p e s m args below meth c Q A ls hx hb hml hown hts hP hK hD hS hA hl ret
  have f7 := hts (.fieldLink RX2 7 "RowSparseModel" "table" "[I") (by decide +kernel)
  have f13 := hts (.fieldLink RX2 13 "RowSparseModel" "other" "[I") (by decide +kernel)
  have f19 := hts (.fieldLink RX2 19 "RowSparseModel" "x" "[I") (by decide +kernel)
  have f22 := hts (.fieldLink RX2 22 "RowSparseModel" "y" "[I") (by decide +kernel)
  have f29 := hts (.fieldLink RX2 29 "RowSparseModel" "rows" "I") (by decide +kernel)
  have f33 := hts (.fieldLink RX2 33 "RowSparseModel" "cols" "I") (by decide +kernel)
  have f47 := hts (.fieldLink RX2 47 "RowSparseModel" "pending" "I") (by decide +kernel)
  have hin2 : ∀ w ∈ u_ws RX2 TX2 9, w ∈ wsX2_transpose := by decide +kernel
  have hl : lv_has ls 3 [(0, .ref o)] := hl
  have hP : va_P D vwCl [(o, .inr (2, [.int (nI K), .int (nI R), .int (nI C), .int (nI np), .ref ta, .ref ot, .ref mo, .ref xx, .ref yy])), (ta, .inl (cI, 3600, .inl T)), (ot, .inl (cI, 3600, .inl O)), (mo, .inl (cI, 3600, .inl E)), (xx, .inl (cI, 60, .inl xX)), (yy, .inl (cI, 60, .inl yY))] s.heap := hP
  have hD : va_D A [(o, .inr (2, [.int (nI K), .int (nI R), .int (nI C), .int (nI np), .ref ta, .ref ot, .ref mo, .ref xx, .ref yy])), (ta, .inl (cI, 3600, .inl T)), (ot, .inl (cI, 3600, .inl O)), (mo, .inl (cI, 3600, .inl E)), (xx, .inl (cI, 60, .inl xX)), (yy, .inl (cI, 60, .inl yY))] := hD
  refine lv_aload_n hx hb dX2_transpose_0 rfl (lv_at hl 0 rfl) ?_
  refine va_get (D := D) (ci := 2) (v := .int (nI np)) (C := RX2) (T := TX2) (N := 9) hx hb hts hin2 hown hK hP 0 rfl rfl 3 (by decide) f47 (fun _ h9 => h9) rfl dX2_transpose_1 ?_
  refine lv_if_le (tgt := 9) hx hb dX2_transpose_4 (by decide) (fun hp => ?_) (fun hp => ?_)
  · have h0 : np = 0 := by
      rw [← ms_nz, nI_leI (by omega) (by omega)] at hp
      omega
    refine lv_iconst (v := nI 0) hx hb dX2_transpose_9 (by decide +kernel) ?_
    refine lv_istore_n (lv' := [(1, .int (nI 0)), (0, .ref o)]) hx hb dX2_transpose_10 rfl hl (by decide) rfl (fun ls hl => ?_)
    have L11 : ∀ (k11 : Nat) (i : Nat) (O1 : Nat → Int32) (H : Heap) (locs : List Loc) (ls : Array Slot), i + k11 = R → (∀ a b, a < i → b < C → O1 (60 * b + a) = M0 a b) → va_P D vwCl [(o, .inr (2, [.int (nI K), .int (nI R), .int (nI C), .int (nI np), .ref ta, .ref ot, .ref mo, .ref xx, .ref yy])), (ta, .inl (cI, 3600, .inl T)), (ot, .inl (cI, 3600, .inl O1)), (mo, .inl (cI, 3600, .inl E)), (xx, .inl (cI, 60, .inl xX)), (yy, .inl (cI, 60, .inl yY))] H → va_D A [(o, .inr (2, [.int (nI K), .int (nI R), .int (nI C), .int (nI np), .ref ta, .ref ot, .ref mo, .ref xx, .ref yy])), (ta, .inl (cI, 3600, .inl T)), (ot, .inl (cI, 3600, .inl O1)), (mo, .inl (cI, 3600, .inl E)), (xx, .inl (cI, 60, .inl xX)), (yy, .inl (cI, 60, .inl yY))] → va_S A s.heap H locs → lv_has ls 3 [(1, .int (nI i)), (0, .ref o)] → W p l e rm_1 s m args below meth c H locs 0 0 Q (F0 m 11 ls []) := by
      intro k11
      induction k11 with
      | zero =>
        intro i O1 H locs ls hk11 hO hP hD hS hl
        have hO : ∀ a b, a < R → b < C → O1 (60 * b + a) = M0 a b := by rw [show i = R by omega] at hO; exact hO
        refine lv_iload_n hx hb dX2_transpose_11 rfl (lv_at hl 0 rfl) ?_
        refine lv_aload_n hx hb dX2_transpose_12 rfl (lv_at hl 1 rfl) ?_
        refine va_get (D := D) (ci := 2) (v := .int (nI R)) (C := RX2) (T := TX2) (N := 9) hx hb hts hin2 hown hK hP 0 rfl rfl 1 (by decide) f29 (fun _ h9 => h9) rfl dX2_transpose_13 ?_
        refine rv_ge_t (tgt := 63) hx hb dX2_transpose_16 (by decide) (by omega) (by omega) ?_
        refine lv_aload_n hx hb dX2_transpose_63 rfl (lv_at hl 1 rfl) ?_
        refine rs_cV (As := []) (rest := []) (WR := [(ta, .inl (cI, 3600, .inl T)), (ot, .inl (cI, 3600, .inl O1)), (mo, .inl (cI, 3600, .inl E)), (xx, .inl (cI, 60, .inl xX)), (yy, .inl (cI, 60, .inl yY))]) ⟨hx, hb, hml, hown, hts⟩ hl.1 (c_turns l D cI o K R C ta ot mo xx yy np) (cwV 0 hts gX2_transpose_X2_turns rfl rfl rfl (by decide +kernel) ⟨Nat.le_of_ble_eq_true rfl, Nat.le_of_ble_eq_true rfl⟩) hK hP hD hS hA [0] [1, 2, 3, 4, 5] rfl rfl (by decide) (by decide) (by decide) rfl rfl rfl rfl (Nat.le_of_ble_eq_true rfl) dX2_transpose_64 (Nat.le_of_ble_eq_true rfl) (Nat.le_of_ble_eq_true rfl) (fun u H locs hu hP hD hS => ?_)
        have hP : va_P D vwCl [(ta, .inl (cI, 3600, .inl T)), (ot, .inl (cI, 3600, .inl O1)), (mo, .inl (cI, 3600, .inl E)), (xx, .inl (cI, 60, .inl xX)), (yy, .inl (cI, 60, .inl yY)), (o, .inr (2, [.int (nI K), .int (nI R), .int (nI C), .int (nI np), .ref ot, .ref ta, .ref mo, .ref xx, .ref yy]))] H := hP
        have hD : va_D A [(ta, .inl (cI, 3600, .inl T)), (ot, .inl (cI, 3600, .inl O1)), (mo, .inl (cI, 3600, .inl E)), (xx, .inl (cI, 60, .inl xX)), (yy, .inl (cI, 60, .inl yY)), (o, .inr (2, [.int (nI K), .int (nI R), .int (nI C), .int (nI np), .ref ot, .ref ta, .ref mo, .ref xx, .ref yy]))] := hD
        refine lv_aload_n hx hb dX2_transpose_67 rfl (lv_at hl 1 rfl) ?_
        refine va_get (D := D) (ci := 2) (v := .int (nI R)) (C := RX2) (T := TX2) (N := 9) hx hb hts hin2 hown hK hP 5 rfl rfl 1 (by decide) f29 (fun _ h9 => h9) rfl dX2_transpose_68 ?_
        refine lv_istore_n (lv' := [(1, .int (nI R)), (0, .ref o)]) hx hb dX2_transpose_71 rfl hl (by decide) rfl (fun ls hl => ?_)
        refine lv_aload_n hx hb dX2_transpose_72 rfl (lv_at hl 1 rfl) ?_
        refine lv_aload_n hx hb dX2_transpose_73 rfl (lv_at hl 1 rfl) ?_
        refine va_get (D := D) (ci := 2) (v := .int (nI C)) (C := RX2) (T := TX2) (N := 9) hx hb hts hin2 hown hK hP 5 rfl rfl 2 (by decide) f33 (fun _ h9 => h9) rfl dX2_transpose_74 ?_
        refine va_put (D := D) (ci := 2) (v := .int (nI C)) (ty := .int) (C := RX2) (T := TX2) (N := 9) hx hb hts hin2 tyX2 tyX2_ok nmX2 hown hK hP hD hS 5 rfl rfl 1 (by decide) f29 (fun _ h9 => h9) rfl (by decide +kernel) rfl rfl (Nat.le_of_ble_eq_true rfl) dX2_transpose_77 (fun H locs hP hD hS => ?_)
        have hP : va_P D vwCl [(ta, .inl (cI, 3600, .inl T)), (ot, .inl (cI, 3600, .inl O1)), (mo, .inl (cI, 3600, .inl E)), (xx, .inl (cI, 60, .inl xX)), (yy, .inl (cI, 60, .inl yY)), (o, .inr (2, [.int (nI K), .int (nI C), .int (nI C), .int (nI np), .ref ot, .ref ta, .ref mo, .ref xx, .ref yy]))] H := hP
        have hD : va_D A [(ta, .inl (cI, 3600, .inl T)), (ot, .inl (cI, 3600, .inl O1)), (mo, .inl (cI, 3600, .inl E)), (xx, .inl (cI, 60, .inl xX)), (yy, .inl (cI, 60, .inl yY)), (o, .inr (2, [.int (nI K), .int (nI C), .int (nI C), .int (nI np), .ref ot, .ref ta, .ref mo, .ref xx, .ref yy]))] := hD
        refine lv_aload_n hx hb dX2_transpose_80 rfl (lv_at hl 1 rfl) ?_
        refine lv_iload_n hx hb dX2_transpose_81 rfl (lv_at hl 0 rfl) ?_
        refine va_put (D := D) (ci := 2) (v := .int (nI R)) (ty := .int) (C := RX2) (T := TX2) (N := 9) hx hb hts hin2 tyX2 tyX2_ok nmX2 hown hK hP hD hS 5 rfl rfl 2 (by decide) f33 (fun _ h9 => h9) rfl (by decide +kernel) rfl rfl (Nat.le_of_ble_eq_true rfl) dX2_transpose_82 (fun H locs hP hD hS => ?_)
        have hP : va_P D vwCl [(ta, .inl (cI, 3600, .inl T)), (ot, .inl (cI, 3600, .inl O1)), (mo, .inl (cI, 3600, .inl E)), (xx, .inl (cI, 60, .inl xX)), (yy, .inl (cI, 60, .inl yY)), (o, .inr (2, [.int (nI K), .int (nI C), .int (nI R), .int (nI np), .ref ot, .ref ta, .ref mo, .ref xx, .ref yy]))] H := hP
        have hD : va_D A [(ta, .inl (cI, 3600, .inl T)), (ot, .inl (cI, 3600, .inl O1)), (mo, .inl (cI, 3600, .inl E)), (xx, .inl (cI, 60, .inl xX)), (yy, .inl (cI, 60, .inl yY)), (o, .inr (2, [.int (nI K), .int (nI C), .int (nI R), .int (nI np), .ref ot, .ref ta, .ref mo, .ref xx, .ref yy]))] := hD
        refine lv_iconst (v := nI 0) hx hb dX2_transpose_85 (by decide +kernel) ?_
        refine lv_istore_n (lv' := [(2, .int (nI 0)), (1, .int (nI R)), (0, .ref o)]) hx hb dX2_transpose_86 rfl hl (by decide) rfl (fun ls hl => ?_)
        have L87 : ∀ (k87 : Nat) (k : Nat) (x1 : Nat → Int32) (y1 : Nat → Int32) (H : Heap) (locs : List Loc) (ls : Array Slot), k + k87 = 60 → (∀ t, t < k → x1 t = nI 0) → (∀ t, t < k → y1 t = nI 0) → va_P D vwCl [(o, .inr (2, [.int (nI K), .int (nI C), .int (nI R), .int (nI np), .ref ot, .ref ta, .ref mo, .ref xx, .ref yy])), (ot, .inl (cI, 3600, .inl O1)), (ta, .inl (cI, 3600, .inl T)), (mo, .inl (cI, 3600, .inl E)), (xx, .inl (cI, 60, .inl x1)), (yy, .inl (cI, 60, .inl y1))] H → va_D A [(o, .inr (2, [.int (nI K), .int (nI C), .int (nI R), .int (nI np), .ref ot, .ref ta, .ref mo, .ref xx, .ref yy])), (ot, .inl (cI, 3600, .inl O1)), (ta, .inl (cI, 3600, .inl T)), (mo, .inl (cI, 3600, .inl E)), (xx, .inl (cI, 60, .inl x1)), (yy, .inl (cI, 60, .inl y1))] → va_S A s.heap H locs → lv_has ls 3 [(2, .int (nI k)), (0, .ref o)] → W p l e rm_1 s m args below meth c H locs 0 0 Q (F0 m 87 ls []) := by
          intro k87
          induction k87 with
          | zero =>
            intro k x1 y1 H locs ls hk87 hx1 hy1 hP hD hS hl
            refine lv_iload_n hx hb dX2_transpose_87 rfl (lv_at hl 0 rfl) ?_
            refine lv_bipush (v := nI 60) hx hb dX2_transpose_88 (by decide +kernel) ?_
            refine rv_ge_t (tgt := 113) hx hb dX2_transpose_90 (by decide) (by omega) (by omega) ?_
            refine lv_iconst (v := nI 1) hx hb dX2_transpose_113 (by decide +kernel) ?_
            exact ret _ _ _ _ _ (((K, C, R, S, np), (fun i j => M0 j i), P, (fun _ => 0), fun _ => 0), ((ot, ta), O1, T, (E, x1, y1))) dX2_transpose_114 (rfl) (⟨(an_turn_t h0).1, (an_turn_t h0).2.symm, by subst h0; exact st_mturn hr hO (fun t ht => hx1 t (by omega)) (fun t ht => hy1 t (by omega))⟩) (hP.sub [0, 1, 2, 3, 4, 5] rfl) (hD.sub [0, 1, 2, 3, 4, 5] (by decide) rfl) hS
          | succ k87 ih87 =>
            intro k x1 y1 H locs ls hk87 hx1 hy1 hP hD hS hl
            refine lv_iload_n hx hb dX2_transpose_87 rfl (lv_at hl 0 rfl) ?_
            refine lv_bipush (v := nI 60) hx hb dX2_transpose_88 (by decide +kernel) ?_
            refine rv_ge_f (tgt := 113) hx hb dX2_transpose_90 (by decide) (by omega) (by omega) ?_
            refine lv_aload_n hx hb dX2_transpose_93 rfl (lv_at hl 1 rfl) ?_
            refine va_get (D := D) (ci := 2) (v := .ref xx) (C := RX2) (T := TX2) (N := 9) hx hb hts hin2 hown hK hP 0 rfl rfl 7 (by decide) f19 (fun _ h9 => h9) rfl dX2_transpose_94 ?_
            refine lv_iload_n hx hb dX2_transpose_97 rfl (lv_at hl 0 rfl) ?_
            refine lv_iconst (v := nI 0) hx hb dX2_transpose_98 (by decide +kernel) ?_
            refine rv_iast hx hb hK hP hD hS 4 rfl rfl (by omega) (by omega) dX2_transpose_99 (fun H locs hP hD hS => ?_)
            have hP : va_P D vwCl [(o, .inr (2, [.int (nI K), .int (nI C), .int (nI R), .int (nI np), .ref ot, .ref ta, .ref mo, .ref xx, .ref yy])), (ot, .inl (cI, 3600, .inl O1)), (ta, .inl (cI, 3600, .inl T)), (mo, .inl (cI, 3600, .inl E)), (xx, .inl (cI, 60, .inl (upd x1 k (nI 0)))), (yy, .inl (cI, 60, .inl y1))] H := hP
            have hD : va_D A [(o, .inr (2, [.int (nI K), .int (nI C), .int (nI R), .int (nI np), .ref ot, .ref ta, .ref mo, .ref xx, .ref yy])), (ot, .inl (cI, 3600, .inl O1)), (ta, .inl (cI, 3600, .inl T)), (mo, .inl (cI, 3600, .inl E)), (xx, .inl (cI, 60, .inl (upd x1 k (nI 0)))), (yy, .inl (cI, 60, .inl y1))] := hD
            refine lv_aload_n hx hb dX2_transpose_100 rfl (lv_at hl 1 rfl) ?_
            refine va_get (D := D) (ci := 2) (v := .ref yy) (C := RX2) (T := TX2) (N := 9) hx hb hts hin2 hown hK hP 0 rfl rfl 8 (by decide) f22 (fun _ h9 => h9) rfl dX2_transpose_101 ?_
            refine lv_iload_n hx hb dX2_transpose_104 rfl (lv_at hl 0 rfl) ?_
            refine lv_iconst (v := nI 0) hx hb dX2_transpose_105 (by decide +kernel) ?_
            refine rv_iast hx hb hK hP hD hS 5 rfl rfl (by omega) (by omega) dX2_transpose_106 (fun H locs hP hD hS => ?_)
            have hP : va_P D vwCl [(o, .inr (2, [.int (nI K), .int (nI C), .int (nI R), .int (nI np), .ref ot, .ref ta, .ref mo, .ref xx, .ref yy])), (ot, .inl (cI, 3600, .inl O1)), (ta, .inl (cI, 3600, .inl T)), (mo, .inl (cI, 3600, .inl E)), (xx, .inl (cI, 60, .inl (upd x1 k (nI 0)))), (yy, .inl (cI, 60, .inl (upd y1 k (nI 0))))] H := hP
            have hD : va_D A [(o, .inr (2, [.int (nI K), .int (nI C), .int (nI R), .int (nI np), .ref ot, .ref ta, .ref mo, .ref xx, .ref yy])), (ot, .inl (cI, 3600, .inl O1)), (ta, .inl (cI, 3600, .inl T)), (mo, .inl (cI, 3600, .inl E)), (xx, .inl (cI, 60, .inl (upd x1 k (nI 0)))), (yy, .inl (cI, 60, .inl (upd y1 k (nI 0))))] := hD
            refine lv_iinc (v := nI (k + 1)) (lv' := [(2, .int (nI (k + 1))), (0, .ref o)]) hx hb dX2_transpose_107 hl (k := 0) rfl (rv_inc _) (by decide) rfl (fun ls hl => ?_)
            refine lv_goto (tgt := 87) hx hb dX2_transpose_110 (by decide) ?_
            exact ih87 (k + 1) (upd x1 k (nI 0)) (upd y1 k (nI 0)) _ _ _ (by omega) (ms_fillstep hx1) (ms_fillstep hy1) (hP.sub [0, 1, 2, 3, 4, 5] rfl) (hD.sub [0, 1, 2, 3, 4, 5] (by decide) rfl) hS (lv_sub hl [0, 1] rfl)
        exact L87 _ 0 xX yY _ _ _ (Nat.zero_add _) (fun t ht => absurd ht (Nat.not_lt_zero t)) (fun t ht => absurd ht (Nat.not_lt_zero t)) (hP.sub [5, 1, 0, 2, 3, 4] rfl) (hD.sub [5, 1, 0, 2, 3, 4] (by decide) rfl) hS (lv_sub hl [0, 2] rfl)
      | succ k11 ih11 =>
        intro i O1 H locs ls hk11 hO hP hD hS hl
        refine lv_iload_n hx hb dX2_transpose_11 rfl (lv_at hl 0 rfl) ?_
        refine lv_aload_n hx hb dX2_transpose_12 rfl (lv_at hl 1 rfl) ?_
        refine va_get (D := D) (ci := 2) (v := .int (nI R)) (C := RX2) (T := TX2) (N := 9) hx hb hts hin2 hown hK hP 0 rfl rfl 1 (by decide) f29 (fun _ h9 => h9) rfl dX2_transpose_13 ?_
        refine rv_ge_f (tgt := 63) hx hb dX2_transpose_16 (by decide) (by omega) (by omega) ?_
        refine lv_iconst (v := nI 0) hx hb dX2_transpose_19 (by decide +kernel) ?_
        refine lv_istore_n (lv' := [(2, .int (nI 0)), (1, .int (nI i)), (0, .ref o)]) hx hb dX2_transpose_20 rfl hl (by decide) rfl (fun ls hl => ?_)
        have L21 : ∀ (k21 : Nat) (j : Nat) (O2 : Nat → Int32) (H : Heap) (locs : List Loc) (ls : Array Slot), j + k21 = C → (∀ a b, a < i → b < C → O2 (60 * b + a) = M0 a b) → (∀ b, b < j → O2 (60 * b + i) = M0 i b) → va_P D vwCl [(o, .inr (2, [.int (nI K), .int (nI R), .int (nI C), .int (nI np), .ref ta, .ref ot, .ref mo, .ref xx, .ref yy])), (ta, .inl (cI, 3600, .inl T)), (ot, .inl (cI, 3600, .inl O2)), (mo, .inl (cI, 3600, .inl E)), (xx, .inl (cI, 60, .inl xX)), (yy, .inl (cI, 60, .inl yY))] H → va_D A [(o, .inr (2, [.int (nI K), .int (nI R), .int (nI C), .int (nI np), .ref ta, .ref ot, .ref mo, .ref xx, .ref yy])), (ta, .inl (cI, 3600, .inl T)), (ot, .inl (cI, 3600, .inl O2)), (mo, .inl (cI, 3600, .inl E)), (xx, .inl (cI, 60, .inl xX)), (yy, .inl (cI, 60, .inl yY))] → va_S A s.heap H locs → lv_has ls 3 [(2, .int (nI j)), (1, .int (nI i)), (0, .ref o)] → W p l e rm_1 s m args below meth c H locs 0 0 Q (F0 m 21 ls []) := by
          intro k21
          induction k21 with
          | zero =>
            intro j O2 H locs ls hk21 h1 h2 hP hD hS hl
            refine lv_iload_n hx hb dX2_transpose_21 rfl (lv_at hl 0 rfl) ?_
            refine lv_aload_n hx hb dX2_transpose_22 rfl (lv_at hl 2 rfl) ?_
            refine va_get (D := D) (ci := 2) (v := .int (nI C)) (C := RX2) (T := TX2) (N := 9) hx hb hts hin2 hown hK hP 0 rfl rfl 2 (by decide) f33 (fun _ h9 => h9) rfl dX2_transpose_23 ?_
            refine rv_ge_t (tgt := 57) hx hb dX2_transpose_26 (by decide) (by omega) (by omega) ?_
            refine lv_iinc (v := nI (i + 1)) (lv' := [(1, .int (nI (i + 1))), (2, .int (nI j)), (0, .ref o)]) hx hb dX2_transpose_57 hl (k := 1) rfl (rv_inc _) (by decide) rfl (fun ls hl => ?_)
            refine lv_goto (tgt := 11) hx hb dX2_transpose_60 (by decide) ?_
            exact ih11 (i + 1) O2 _ _ _ (by omega) (ms_gridTrow (show j = C by omega) h1 h2) (hP.sub [0, 1, 2, 3, 4, 5] rfl) (hD.sub [0, 1, 2, 3, 4, 5] (by decide) rfl) hS (lv_sub hl [0, 2] rfl)
          | succ k21 ih21 =>
            intro j O2 H locs ls hk21 h1 h2 hP hD hS hl
            refine lv_iload_n hx hb dX2_transpose_21 rfl (lv_at hl 0 rfl) ?_
            refine lv_aload_n hx hb dX2_transpose_22 rfl (lv_at hl 2 rfl) ?_
            refine va_get (D := D) (ci := 2) (v := .int (nI C)) (C := RX2) (T := TX2) (N := 9) hx hb hts hin2 hown hK hP 0 rfl rfl 2 (by decide) f33 (fun _ h9 => h9) rfl dX2_transpose_23 ?_
            refine rv_ge_f (tgt := 57) hx hb dX2_transpose_26 (by decide) (by omega) (by omega) ?_
            refine lv_aload_n hx hb dX2_transpose_29 rfl (lv_at hl 2 rfl) ?_
            refine va_get (D := D) (ci := 2) (v := .ref ot) (C := RX2) (T := TX2) (N := 9) hx hb hts hin2 hown hK hP 0 rfl rfl 5 (by decide) f13 (fun _ h9 => h9) rfl dX2_transpose_30 ?_
            refine lv_bipush (v := nI 60) hx hb dX2_transpose_33 (by decide +kernel) ?_
            refine lv_iload_n hx hb dX2_transpose_35 rfl (lv_at hl 0 rfl) ?_
            refine rv_imul hx hb dX2_transpose_36 ?_
            refine lv_iload_n hx hb dX2_transpose_37 rfl (lv_at hl 1 rfl) ?_
            refine rv_iadd hx hb dX2_transpose_38 ?_
            refine lv_aload_n hx hb dX2_transpose_39 rfl (lv_at hl 2 rfl) ?_
            refine va_get (D := D) (ci := 2) (v := .ref ta) (C := RX2) (T := TX2) (N := 9) hx hb hts hin2 hown hK hP 0 rfl rfl 4 (by decide) f7 (fun _ h9 => h9) rfl dX2_transpose_40 ?_
            refine lv_bipush (v := nI 60) hx hb dX2_transpose_43 (by decide +kernel) ?_
            refine lv_iload_n hx hb dX2_transpose_45 rfl (lv_at hl 1 rfl) ?_
            refine rv_imul hx hb dX2_transpose_46 ?_
            refine lv_iload_n hx hb dX2_transpose_47 rfl (lv_at hl 0 rfl) ?_
            refine rv_iadd hx hb dX2_transpose_48 ?_
            refine rv_iald hx hb hK hP 1 rfl rfl (by omega) (by omega) dX2_transpose_49 ?_
            refine rv_top (hT i j (by omega) (by omega)) ?_
            refine rv_iast hx hb hK hP hD hS 2 rfl rfl (by omega) (by omega) dX2_transpose_50 (fun H locs hP hD hS => ?_)
            have hP : va_P D vwCl [(o, .inr (2, [.int (nI K), .int (nI R), .int (nI C), .int (nI np), .ref ta, .ref ot, .ref mo, .ref xx, .ref yy])), (ta, .inl (cI, 3600, .inl T)), (ot, .inl (cI, 3600, .inl (upd O2 (60 * j + i) (M0 i j)))), (mo, .inl (cI, 3600, .inl E)), (xx, .inl (cI, 60, .inl xX)), (yy, .inl (cI, 60, .inl yY))] H := hP
            have hD : va_D A [(o, .inr (2, [.int (nI K), .int (nI R), .int (nI C), .int (nI np), .ref ta, .ref ot, .ref mo, .ref xx, .ref yy])), (ta, .inl (cI, 3600, .inl T)), (ot, .inl (cI, 3600, .inl (upd O2 (60 * j + i) (M0 i j)))), (mo, .inl (cI, 3600, .inl E)), (xx, .inl (cI, 60, .inl xX)), (yy, .inl (cI, 60, .inl yY))] := hD
            refine lv_iinc (v := nI (j + 1)) (lv' := [(2, .int (nI (j + 1))), (1, .int (nI i)), (0, .ref o)]) hx hb dX2_transpose_51 hl (k := 0) rfl (rv_inc _) (by decide) rfl (fun ls hl => ?_)
            refine lv_goto (tgt := 21) hx hb dX2_transpose_54 (by decide) ?_
            exact ih21 (j + 1) (upd O2 (60 * j + i) (M0 i j)) _ _ _ (by omega) ((ms_gridT (by omega) (show j < C by omega) h1 h2 rfl).1) ((ms_gridT (by omega) (show j < C by omega) h1 h2 rfl).2) (hP.sub [0, 1, 2, 3, 4, 5] rfl) (hD.sub [0, 1, 2, 3, 4, 5] (by decide) rfl) hS (lv_sub hl [0, 1, 2] rfl)
        exact L21 _ 0 O1 _ _ _ (Nat.zero_add _) (hO) (fun b hb => absurd hb (Nat.not_lt_zero b)) (hP.sub [0, 1, 2, 3, 4, 5] rfl) (hD.sub [0, 1, 2, 3, 4, 5] (by decide) rfl) hS (lv_sub hl [0, 1, 2] rfl)
    exact L11 _ 0 O _ _ _ (Nat.zero_add _) (fun a b ha => absurd ha (Nat.not_lt_zero a)) (hP.sub [0, 1, 2, 3, 4, 5] rfl) (hD.sub [0, 1, 2, 3, 4, 5] (by decide) rfl) hS (lv_sub hl [0, 1] rfl)
  · have h0 : ¬ np = 0 := fun q => hp (by rw [q]; decide)
    refine lv_iconst (v := nI 0) hx hb dX2_transpose_7 (by decide +kernel) ?_
    exact ret _ _ _ _ _ (((K, R, C, S, np), M0, P, X, Y), ((ta, ot), T, O, (E, xX, yY))) dX2_transpose_8 (rfl) (⟨(an_turn_f h0).1, (an_turn_f h0).2.symm, hr⟩) (hP.sub [0, 1, 2, 3, 4, 5] rfl) (hD.sub [0, 1, 2, 3, 4, 5] (by decide) rfl) hS
