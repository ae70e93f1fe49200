set_option maxHeartbeats 4000000 in
set_option maxRecDepth 100000 in
theorem c_nnz (l : Launch) (D : va_G) (cI : ClassId) (o ar ac av vx py li : Nat) (a : st_A) (u : st_C) (hr : st_rc a u)  : MetR l yX1_nnz wsX1_nnz rm_1 D [(cI, .int)] [.ref o] (st_wC cI o ar ac av vx py li a u) (fun r => r = an_nnz a) := by
  obtain ⟨⟨K, R, C, S, np⟩, M0, P, X, Y⟩ := a
  obtain ⟨⟨su, sa, sb, sc⟩, ⟨sp, ta, tb, tc⟩, ⟨f, g, w⟩, ⟨f2, g2, w2⟩, ⟨pR, pC, pV⟩, ⟨vX, pY, lI⟩⟩ := u
  have hr : st_RC K R C S np M0 P X Y f g w f2 pR pC pV vX pY := hr
  obtain ⟨⟨⟨b1, b2, b3, b4, b5, b6, b7, b8⟩, hM⟩, hsup, hf2, hpe, hps, hX, hY⟩ := id hr
  refine rs_R (cc := cX1_nnz) (maxL := 1) (rty := .int) (by decide) rfl (Nat.le_of_ble_eq_true rfl) ?_
  intro p e s m args below meth c Q ls hx hb hml hown hts hP hK hl ret
  have f13 := hts (.fieldLink RX1 13 "RowSparse" "rows" "I") (by decide +kernel)
  have f33 := hts (.fieldLink RX1 33 "RowSparse" "support" "LRowSparse$Support;") (by decide +kernel)
  have hin1 : ∀ w ∈ u_ws RX1 TX1 12, w ∈ wsX1_nnz := by decide +kernel
  have hl : lv_has ls 1 [(0, .ref o)] := hl
  have hP : va_P D vwCl [(o, .inr (1, [.int (nI K), .int (nI R), .int (nI C), .ref su, .ref sp, .ref ar, .ref ac, .ref av, .int (nI np), .ref vx, .ref py, .ref li])), (su, .inr (0, [.ref sa, .ref sb, .ref sc])), (sa, .inl (cI, S + 1, .inl f)), (sb, .inl (cI, K, .inl g)), (sc, .inl (cI, K, .inl w)), (sp, .inr (0, [.ref ta, .ref tb, .ref tc])), (ta, .inl (cI, S + 1, .inl f2)), (tb, .inl (cI, K, .inl g2)), (tc, .inl (cI, K, .inl w2)), (ar, .inl (cI, K, .inl pR)), (ac, .inl (cI, K, .inl pC)), (av, .inl (cI, K, .inl pV)), (vx, .inl (cI, S, .inl vX)), (py, .inl (cI, S, .inl pY)), (li, .inl (cI, S, .inl lI))] s.heap := hP
  refine lv_aload_n hx hb dX1_nnz_0 rfl (lv_at hl 0 rfl) ?_
  refine va_get (D := D) (ci := 1) (v := .ref su) (C := RX1) (T := TX1) (N := 12) hx hb hts hin1 hown hK hP 0 rfl rfl 3 (by decide) f33 (fun _ h9 => h9) rfl dX1_nnz_1 ?_
  refine lv_aload_n hx hb dX1_nnz_4 rfl (lv_at hl 0 rfl) ?_
  refine va_get (D := D) (ci := 1) (v := .int (nI R)) (C := RX1) (T := TX1) (N := 12) hx hb hts hin1 hown hK hP 0 rfl rfl 1 (by decide) f13 (fun _ h9 => h9) rfl dX1_nnz_5 ?_
  refine rs_cR (As := [.int (nI R)]) (rest := []) ⟨hx, hb, hml, hown, hts⟩ hl.1 (c_placesAhead l D cI su sa sb sc (S + 1) R f (by omega) (by omega)) (cwV 1 hts gX1_nnz_X0_placesAhead rfl rfl rfl (by decide +kernel) ⟨Nat.le_of_ble_eq_true rfl, Nat.le_of_ble_eq_true rfl⟩) hK hP [1, 2] rfl rfl rfl rfl rfl (Nat.le_of_ble_eq_true rfl) dX1_nnz_8 (Nat.le_of_ble_eq_true rfl) (Nat.le_of_ble_eq_true rfl) (fun r hr => ?_)
  subst hr
  exact ret _ _ _ dX1_nnz_11 (rfl) (hsup.1 R (Nat.le_refl _))

set_option maxHeartbeats 4000000 in
set_option maxRecDepth 100000 in
theorem c_at (l : Launch) (D : va_G) (cI : ClassId) (o ar ac av vx py li : Nat) (a : st_A) (u : st_C) (hr : st_rc a u) (i j : Int32) : MetR l yX1_at wsX1_at rm_2 D [(cI, .int)] [.ref o, .int i, .int j] (st_wC cI o ar ac av vx py li a u) (fun r => r = an_at a i j) := by
  obtain ⟨⟨K, R, C, S, np⟩, M0, P, X, Y⟩ := a
  obtain ⟨⟨su, sa, sb, sc⟩, ⟨sp, ta, tb, tc⟩, ⟨f, g, w⟩, ⟨f2, g2, w2⟩, ⟨pR, pC, pV⟩, ⟨vX, pY, lI⟩⟩ := u
  have hr : st_RC K R C S np M0 P X Y f g w f2 pR pC pV vX pY := hr
  obtain ⟨⟨⟨b1, b2, b3, b4, b5, b6, b7, b8⟩, hM⟩, hsup, hf2, hpe, hps, hX, hY⟩ := id hr
  refine rs_R (cc := cX1_at) (maxL := 3) (rty := .int) (by decide) rfl (Nat.le_of_ble_eq_true rfl) ?_
  intro p e s m args below meth c Q ls hx hb hml hown hts hP hK hl ret
  have f33 := hts (.fieldLink RX1 33 "RowSparse" "support" "LRowSparse$Support;") (by decide +kernel)
  have hin1 : ∀ w ∈ u_ws RX1 TX1 12, w ∈ wsX1_at := by decide +kernel
  have hl : lv_has ls 3 [(0, .ref o), (1, .int i), (2, .int j)] := hl
  have hP : va_P D vwCl [(o, .inr (1, [.int (nI K), .int (nI R), .int (nI C), .ref su, .ref sp, .ref ar, .ref ac, .ref av, .int (nI np), .ref vx, .ref py, .ref li])), (su, .inr (0, [.ref sa, .ref sb, .ref sc])), (sa, .inl (cI, S + 1, .inl f)), (sb, .inl (cI, K, .inl g)), (sc, .inl (cI, K, .inl w)), (sp, .inr (0, [.ref ta, .ref tb, .ref tc])), (ta, .inl (cI, S + 1, .inl f2)), (tb, .inl (cI, K, .inl g2)), (tc, .inl (cI, K, .inl w2)), (ar, .inl (cI, K, .inl pR)), (ac, .inl (cI, K, .inl pC)), (av, .inl (cI, K, .inl pV)), (vx, .inl (cI, S, .inl vX)), (py, .inl (cI, S, .inl pY)), (li, .inl (cI, S, .inl lI))] s.heap := hP
  refine lv_aload_n hx hb dX1_at_0 rfl (lv_at hl 0 rfl) ?_
  refine lv_iload_n hx hb dX1_at_1 rfl (lv_at hl 1 rfl) ?_
  refine lv_iload_n hx hb dX1_at_2 rfl (lv_at hl 2 rfl) ?_
  refine rs_cR (As := [.int i, .int j]) (rest := []) ⟨hx, hb, hml, hown, hts⟩ hl.1 (c_hasPlace l D cI o R C (.int (nI K)) (.ref su) (.ref sp) (.ref ar) (.ref ac) (.ref av) (.int (nI np)) (.ref vx) (.ref py) (.ref li) i j (by omega) (by omega)) (cwV 2 hts gX1_at_X1_hasPlace rfl rfl rfl (by decide +kernel) ⟨Nat.le_of_ble_eq_true rfl, Nat.le_of_ble_eq_true rfl⟩) hK hP [0] rfl rfl rfl rfl rfl (Nat.le_of_ble_eq_true rfl) dX1_at_3 (Nat.le_of_ble_eq_true rfl) (Nat.le_of_ble_eq_true rfl) (fun r hr => ?_)
  subst hr
  refine lv_if_eq (tgt := 21) hx hb dX1_at_6 (by decide) (fun h1 => ?_) (fun h1 => ?_)
  · have h1 := ms_bI_0.mp h1
    refine lv_iconst (v := nI 0) hx hb dX1_at_21 (by decide +kernel) ?_
    exact ret _ _ _ dX1_at_22 (rfl) (an_at_f h1)
  · have h1 := ms_bI_n.mp h1
    have h1 := Bool.and_eq_true_iff.mp h1
    obtain ⟨i0, hi0, rfl⟩ := ms_in_of h1.1 (by omega)
    obtain ⟨j0, hj0, rfl⟩ := ms_in_of h1.2 (by omega)
    obtain ⟨e0, e1, h01, h1k, e2⟩ := ms_Sq hsup hi0
    refine lv_aload_n hx hb dX1_at_9 rfl (lv_at hl 0 rfl) ?_
    refine va_get (D := D) (ci := 1) (v := .ref su) (C := RX1) (T := TX1) (N := 12) hx hb hts hin1 hown hK hP 0 rfl rfl 3 (by decide) f33 (fun _ h9 => h9) rfl dX1_at_10 ?_
    refine lv_iload_n hx hb dX1_at_13 rfl (lv_at hl 1 rfl) ?_
    refine lv_iload_n hx hb dX1_at_14 rfl (lv_at hl 2 rfl) ?_
    refine rs_cR (As := [.int (nI i0), .int (nI j0)]) (rest := []) ⟨hx, hb, hml, hown, hts⟩ hl.1 (c_entry l D cI su sa sb sc (S + 1) K f g w i0 (ms_sc M0 S i0) (ms_sc M0 S (i0 + 1)) (nI j0) (by omega) (by omega) (by omega) e0 e1 h01 h1k) (cwV 2 hts gX1_at_X0_entry rfl rfl rfl (by decide +kernel) ⟨Nat.le_of_ble_eq_true rfl, Nat.le_of_ble_eq_true rfl⟩) hK hP [1, 2, 3, 4] rfl rfl rfl rfl rfl (Nat.le_of_ble_eq_true rfl) dX1_at_15 (Nat.le_of_ble_eq_true rfl) (Nat.le_of_ble_eq_true rfl) (fun r hv => ?_)
    have hv : r = M0 i0 j0 := ms_entry hsup (by omega) hi0 (by omega) hv
    subst hv
    refine lv_goto (tgt := 22) hx hb dX1_at_18 (by decide) ?_
    exact ret _ _ _ dX1_at_22 (rfl) (an_at_t hi0 hj0 (by omega) (by omega))

set_option maxHeartbeats 4000000 in
set_option maxRecDepth 100000 in
theorem c_rowStart (l : Launch) (D : va_G) (cI : ClassId) (o ar ac av vx py li : Nat) (a : st_A) (u : st_C) (hr : st_rc a u) (i : Int32) : MetR l yX1_rowStart wsX1_rowStart rm_1 D [(cI, .int)] [.ref o, .int i] (st_wC cI o ar ac av vx py li a u) (fun r => r = an_rowStart a i) := by
  obtain ⟨⟨K, R, C, S, np⟩, M0, P, X, Y⟩ := a
  obtain ⟨⟨su, sa, sb, sc⟩, ⟨sp, ta, tb, tc⟩, ⟨f, g, w⟩, ⟨f2, g2, w2⟩, ⟨pR, pC, pV⟩, ⟨vX, pY, lI⟩⟩ := u
  have hr : st_RC K R C S np M0 P X Y f g w f2 pR pC pV vX pY := hr
  obtain ⟨⟨⟨b1, b2, b3, b4, b5, b6, b7, b8⟩, hM⟩, hsup, hf2, hpe, hps, hX, hY⟩ := id hr
  refine rs_R (cc := cX1_rowStart) (maxL := 2) (rty := .int) (by decide) rfl (Nat.le_of_ble_eq_true rfl) ?_
  intro p e s m args below meth c Q ls hx hb hml hown hts hP hK hl ret
  have f13 := hts (.fieldLink RX1 13 "RowSparse" "rows" "I") (by decide +kernel)
  have f33 := hts (.fieldLink RX1 33 "RowSparse" "support" "LRowSparse$Support;") (by decide +kernel)
  have hin1 : ∀ w ∈ u_ws RX1 TX1 12, w ∈ wsX1_rowStart := by decide +kernel
  have hl : lv_has ls 2 [(0, .ref o), (1, .int i)] := hl
  have hP : va_P D vwCl [(o, .inr (1, [.int (nI K), .int (nI R), .int (nI C), .ref su, .ref sp, .ref ar, .ref ac, .ref av, .int (nI np), .ref vx, .ref py, .ref li])), (su, .inr (0, [.ref sa, .ref sb, .ref sc])), (sa, .inl (cI, S + 1, .inl f)), (sb, .inl (cI, K, .inl g)), (sc, .inl (cI, K, .inl w)), (sp, .inr (0, [.ref ta, .ref tb, .ref tc])), (ta, .inl (cI, S + 1, .inl f2)), (tb, .inl (cI, K, .inl g2)), (tc, .inl (cI, K, .inl w2)), (ar, .inl (cI, K, .inl pR)), (ac, .inl (cI, K, .inl pC)), (av, .inl (cI, K, .inl pV)), (vx, .inl (cI, S, .inl vX)), (py, .inl (cI, S, .inl pY)), (li, .inl (cI, S, .inl lI))] s.heap := hP
  refine lv_iload_n hx hb dX1_rowStart_0 rfl (lv_at hl 1 rfl) ?_
  refine lv_if_lt (tgt := 23) hx hb dX1_rowStart_1 (by decide) (fun h1 => ?_) (fun h1 => ?_)
  · refine lv_iconst (v := (-1)) hx hb dX1_rowStart_23 (by decide +kernel) ?_
    exact ret _ _ _ dX1_rowStart_24 (rfl) (an_rs_f (ms_in_f1 h1))
  · refine lv_iload_n hx hb dX1_rowStart_4 rfl (lv_at hl 1 rfl) ?_
    refine lv_aload_n hx hb dX1_rowStart_5 rfl (lv_at hl 0 rfl) ?_
    refine va_get (D := D) (ci := 1) (v := .int (nI R)) (C := RX1) (T := TX1) (N := 12) hx hb hts hin1 hown hK hP 0 rfl rfl 1 (by decide) f13 (fun _ h9 => h9) rfl dX1_rowStart_6 ?_
    refine lv_icmp_gt (tgt := 23) hx hb dX1_rowStart_9 (by decide) (fun h2 => ?_) (fun h2 => ?_)
    · refine lv_iconst (v := (-1)) hx hb dX1_rowStart_23 (by decide +kernel) ?_
      exact ret _ _ _ dX1_rowStart_24 (rfl) (an_rs_f (ms_in2_f2 (by omega) h2))
    · obtain ⟨i0, hi0, rfl⟩ := ms_in_of (ms_in2_t (h := R) (by omega) (by rw [ms_nz]; exact h1) h2) (by omega)
      refine lv_aload_n hx hb dX1_rowStart_12 rfl (lv_at hl 0 rfl) ?_
      refine va_get (D := D) (ci := 1) (v := .ref su) (C := RX1) (T := TX1) (N := 12) hx hb hts hin1 hown hK hP 0 rfl rfl 3 (by decide) f33 (fun _ h9 => h9) rfl dX1_rowStart_13 ?_
      refine lv_iload_n hx hb dX1_rowStart_16 rfl (lv_at hl 1 rfl) ?_
      refine rs_cR (As := [.int (nI i0)]) (rest := []) ⟨hx, hb, hml, hown, hts⟩ hl.1 (c_placesAhead l D cI su sa sb sc (S + 1) i0 f (by omega) (by omega)) (cwV 1 hts gX1_rowStart_X0_placesAhead rfl rfl rfl (by decide +kernel) ⟨Nat.le_of_ble_eq_true rfl, Nat.le_of_ble_eq_true rfl⟩) hK hP [1, 2] rfl rfl rfl rfl rfl (Nat.le_of_ble_eq_true rfl) dX1_rowStart_17 (Nat.le_of_ble_eq_true rfl) (Nat.le_of_ble_eq_true rfl) (fun r hv => ?_)
      subst hv
      refine rv_top (hsup.1 i0 (by omega)) ?_
      refine lv_goto (tgt := 24) hx hb dX1_rowStart_20 (by decide) ?_
      exact ret _ _ _ dX1_rowStart_24 (rfl) (an_rs_t hi0 (by omega))

set_option maxHeartbeats 4000000 in
set_option maxRecDepth 100000 in
theorem c_colAt (l : Launch) (D : va_G) (cI : ClassId) (o ar ac av vx py li : Nat) (a : st_A) (u : st_C) (hr : st_rc a u) (i : Int32) : MetR l yX1_colAt wsX1_colAt rm_1 D [(cI, .int)] [.ref o, .int i] (st_wC cI o ar ac av vx py li a u) (fun r => an_colAt a i r) := by
  obtain ⟨⟨K, R, C, S, np⟩, M0, P, X, Y⟩ := a
  obtain ⟨⟨su, sa, sb, sc⟩, ⟨sp, ta, tb, tc⟩, ⟨f, g, w⟩, ⟨f2, g2, w2⟩, ⟨pR, pC, pV⟩, ⟨vX, pY, lI⟩⟩ := u
  have hr : st_RC K R C S np M0 P X Y f g w f2 pR pC pV vX pY := hr
  obtain ⟨⟨⟨b1, b2, b3, b4, b5, b6, b7, b8⟩, hM⟩, hsup, hf2, hpe, hps, hX, hY⟩ := id hr
  refine rs_R (cc := cX1_colAt) (maxL := 2) (rty := .int) (by decide) rfl (Nat.le_of_ble_eq_true rfl) ?_
  intro p e s m args below meth c Q ls hx hb hml hown hts hP hK hl ret
  have f13 := hts (.fieldLink RX1 13 "RowSparse" "rows" "I") (by decide +kernel)
  have f33 := hts (.fieldLink RX1 33 "RowSparse" "support" "LRowSparse$Support;") (by decide +kernel)
  have hin1 : ∀ w ∈ u_ws RX1 TX1 12, w ∈ wsX1_colAt := by decide +kernel
  have hl : lv_has ls 2 [(0, .ref o), (1, .int i)] := hl
  have hP : va_P D vwCl [(o, .inr (1, [.int (nI K), .int (nI R), .int (nI C), .ref su, .ref sp, .ref ar, .ref ac, .ref av, .int (nI np), .ref vx, .ref py, .ref li])), (su, .inr (0, [.ref sa, .ref sb, .ref sc])), (sa, .inl (cI, S + 1, .inl f)), (sb, .inl (cI, K, .inl g)), (sc, .inl (cI, K, .inl w)), (sp, .inr (0, [.ref ta, .ref tb, .ref tc])), (ta, .inl (cI, S + 1, .inl f2)), (tb, .inl (cI, K, .inl g2)), (tc, .inl (cI, K, .inl w2)), (ar, .inl (cI, K, .inl pR)), (ac, .inl (cI, K, .inl pC)), (av, .inl (cI, K, .inl pV)), (vx, .inl (cI, S, .inl vX)), (py, .inl (cI, S, .inl pY)), (li, .inl (cI, S, .inl lI))] s.heap := hP
  refine lv_iload_n hx hb dX1_colAt_0 rfl (lv_at hl 1 rfl) ?_
  refine lv_if_lt (tgt := 30) hx hb dX1_colAt_1 (by decide) (fun h1 => ?_) (fun h1 => ?_)
  · refine lv_iconst (v := (-1)) hx hb dX1_colAt_30 (by decide +kernel) ?_
    exact ret _ _ _ dX1_colAt_31 (rfl) (Or.inr ⟨rfl, Or.inl h1⟩)
  · refine lv_iload_n hx hb dX1_colAt_4 rfl (lv_at hl 1 rfl) ?_
    refine lv_aload_n hx hb dX1_colAt_5 rfl (lv_at hl 0 rfl) ?_
    refine va_get (D := D) (ci := 1) (v := .ref su) (C := RX1) (T := TX1) (N := 12) hx hb hts hin1 hown hK hP 0 rfl rfl 3 (by decide) f33 (fun _ h9 => h9) rfl dX1_colAt_6 ?_
    refine lv_aload_n hx hb dX1_colAt_9 rfl (lv_at hl 0 rfl) ?_
    refine va_get (D := D) (ci := 1) (v := .int (nI R)) (C := RX1) (T := TX1) (N := 12) hx hb hts hin1 hown hK hP 0 rfl rfl 1 (by decide) f13 (fun _ h9 => h9) rfl dX1_colAt_10 ?_
    refine rs_cR (As := [.int (nI R)]) (rest := [.int i]) ⟨hx, hb, hml, hown, hts⟩ hl.1 (c_placesAhead l D cI su sa sb sc (S + 1) R f (by omega) (by omega)) (cwV 1 hts gX1_colAt_X0_placesAhead rfl rfl rfl (by decide +kernel) ⟨Nat.le_of_ble_eq_true rfl, Nat.le_of_ble_eq_true rfl⟩) hK hP [1, 2] rfl rfl rfl rfl rfl (Nat.le_of_ble_eq_true rfl) dX1_colAt_13 (Nat.le_of_ble_eq_true rfl) (Nat.le_of_ble_eq_true rfl) (fun r hv => ?_)
    subst hv
    refine rv_top (hsup.1 R (Nat.le_refl _)) ?_
    refine lv_icmp_ge (tgt := 30) hx hb dX1_colAt_16 (by decide) (fun h2 => ?_) (fun h2 => ?_)
    · refine lv_iconst (v := (-1)) hx hb dX1_colAt_30 (by decide +kernel) ?_
      exact ret _ _ _ dX1_colAt_31 (rfl) (Or.inr ⟨rfl, Or.inr h2⟩)
    · have hsk := hsup.2.1
      obtain ⟨i0, hi0, rfl⟩ := ms_in_of (ms_in_t (N := ms_sc M0 S R) (by omega) h1 h2) (by omega)
      refine lv_aload_n hx hb dX1_colAt_19 rfl (lv_at hl 0 rfl) ?_
      refine va_get (D := D) (ci := 1) (v := .ref su) (C := RX1) (T := TX1) (N := 12) hx hb hts hin1 hown hK hP 0 rfl rfl 3 (by decide) f33 (fun _ h9 => h9) rfl dX1_colAt_20 ?_
      refine lv_iload_n hx hb dX1_colAt_23 rfl (lv_at hl 1 rfl) ?_
      refine rs_cR (As := [.int (nI i0)]) (rest := []) ⟨hx, hb, hml, hown, hts⟩ hl.1 (c_column l D cI su sa sb sc K i0 g (by omega) (by omega)) (cwV 1 hts gX1_colAt_X0_column rfl rfl rfl (by decide +kernel) ⟨Nat.le_of_ble_eq_true rfl, Nat.le_of_ble_eq_true rfl⟩) hK hP [1, 3] rfl rfl rfl rfl rfl (Nat.le_of_ble_eq_true rfl) dX1_colAt_24 (Nat.le_of_ble_eq_true rfl) (Nat.le_of_ble_eq_true rfl) (fun r hv => ?_)
      subst hv
      refine lv_goto (tgt := 31) hx hb dX1_colAt_27 (by decide) ?_
      exact ret _ _ _ dX1_colAt_31 (rfl) (an_colAt_g hsup hi0)

set_option maxHeartbeats 4000000 in
set_option maxRecDepth 100000 in
theorem c_y (l : Launch) (D : va_G) (cI : ClassId) (o ar ac av vx py li : Nat) (a : st_A) (u : st_C) (hr : st_rc a u) (i : Int32) : MetR l yX1_y wsX1_y rm_1 D [(cI, .int)] [.ref o, .int i] (st_wC cI o ar ac av vx py li a u) (fun r => r = an_y a i) := by
  obtain ⟨⟨K, R, C, S, np⟩, M0, P, X, Y⟩ := a
  obtain ⟨⟨su, sa, sb, sc⟩, ⟨sp, ta, tb, tc⟩, ⟨f, g, w⟩, ⟨f2, g2, w2⟩, ⟨pR, pC, pV⟩, ⟨vX, pY, lI⟩⟩ := u
  have hr : st_RC K R C S np M0 P X Y f g w f2 pR pC pV vX pY := hr
  obtain ⟨⟨⟨b1, b2, b3, b4, b5, b6, b7, b8⟩, hM⟩, hsup, hf2, hpe, hps, hX, hY⟩ := id hr
  refine rs_R (cc := cX1_y) (maxL := 2) (rty := .int) (by decide) rfl (Nat.le_of_ble_eq_true rfl) ?_
  intro p e s m args below meth c Q ls hx hb hml hown hts hP hK hl ret
  have f13 := hts (.fieldLink RX1 13 "RowSparse" "rows" "I") (by decide +kernel)
  have f56 := hts (.fieldLink RX1 56 "RowSparse" "product" "[I") (by decide +kernel)
  have hin1 : ∀ w ∈ u_ws RX1 TX1 12, w ∈ wsX1_y := by decide +kernel
  have hl : lv_has ls 2 [(0, .ref o), (1, .int i)] := hl
  have hP : va_P D vwCl [(o, .inr (1, [.int (nI K), .int (nI R), .int (nI C), .ref su, .ref sp, .ref ar, .ref ac, .ref av, .int (nI np), .ref vx, .ref py, .ref li])), (su, .inr (0, [.ref sa, .ref sb, .ref sc])), (sa, .inl (cI, S + 1, .inl f)), (sb, .inl (cI, K, .inl g)), (sc, .inl (cI, K, .inl w)), (sp, .inr (0, [.ref ta, .ref tb, .ref tc])), (ta, .inl (cI, S + 1, .inl f2)), (tb, .inl (cI, K, .inl g2)), (tc, .inl (cI, K, .inl w2)), (ar, .inl (cI, K, .inl pR)), (ac, .inl (cI, K, .inl pC)), (av, .inl (cI, K, .inl pV)), (vx, .inl (cI, S, .inl vX)), (py, .inl (cI, S, .inl pY)), (li, .inl (cI, S, .inl lI))] s.heap := hP
  refine lv_iload_n hx hb dX1_y_0 rfl (lv_at hl 1 rfl) ?_
  refine lv_aload_n hx hb dX1_y_1 rfl (lv_at hl 0 rfl) ?_
  refine va_get (D := D) (ci := 1) (v := .int (nI R)) (C := RX1) (T := TX1) (N := 12) hx hb hts hin1 hown hK hP 0 rfl rfl 1 (by decide) f13 (fun _ h9 => h9) rfl dX1_y_2 ?_
  refine rs_cRS (As := [.int i, .int (nI R)]) (rest := []) ⟨hx, hb, hml, hown, hts⟩ hl.1 (c_isWithin l D cI i R (by omega)) (va_cwS 2 hts gX1_y_X1_isWithin rfl rfl rfl (by decide +kernel) ⟨Nat.le_of_ble_eq_true rfl, Nat.le_of_ble_eq_true rfl⟩) hK hP [] rfl rfl rfl (Nat.le_of_ble_eq_true rfl) dX1_y_5 (Nat.le_of_ble_eq_true rfl) (Nat.le_of_ble_eq_true rfl) (fun r hv => ?_)
  subst hv
  refine lv_if_eq (tgt := 20) hx hb dX1_y_8 (by decide) (fun h1 => ?_) (fun h1 => ?_)
  · have h1 := ms_bI_0.mp h1
    refine lv_iconst (v := nI 0) hx hb dX1_y_20 (by decide +kernel) ?_
    exact ret _ _ _ dX1_y_21 (rfl) (an_y_f h1)
  · have h1 := ms_bI_n.mp h1
    obtain ⟨i0, hi0, rfl⟩ := ms_in_of h1 (by omega)
    refine lv_aload_n hx hb dX1_y_11 rfl (lv_at hl 0 rfl) ?_
    refine va_get (D := D) (ci := 1) (v := .ref py) (C := RX1) (T := TX1) (N := 12) hx hb hts hin1 hown hK hP 0 rfl rfl 10 (by decide) f56 (fun _ h9 => h9) rfl dX1_y_12 ?_
    refine lv_iload_n hx hb dX1_y_15 rfl (lv_at hl 1 rfl) ?_
    refine rv_iald hx hb hK hP 13 rfl rfl (by omega) (by omega) dX1_y_16 ?_
    refine rv_top (hY i0 hi0) ?_
    refine lv_goto (tgt := 21) hx hb dX1_y_17 (by decide) ?_
    exact ret _ _ _ dX1_y_21 (rfl) (an_y_t hi0 (by omega))

set_option maxHeartbeats 4000000 in
set_option maxRecDepth 100000 in
theorem c_count (l : Launch) (D : va_G) (cI : ClassId) (o ar ac av vx py li : Nat) (a : st_A) (u : st_C) (hr : st_rc a u) (i : Int32) : MetR l yX1_count wsX1_count rm_0 D [(cI, .int)] [.ref o, .int i] (st_wC cI o ar ac av vx py li a u) (fun r => r = an_count a i) := by
  obtain ⟨⟨K, R, C, S, np⟩, M0, P, X, Y⟩ := a
  obtain ⟨⟨su, sa, sb, sc⟩, ⟨sp, ta, tb, tc⟩, ⟨f, g, w⟩, ⟨f2, g2, w2⟩, ⟨pR, pC, pV⟩, ⟨vX, pY, lI⟩⟩ := u
  have hr : st_RC K R C S np M0 P X Y f g w f2 pR pC pV vX pY := hr
  obtain ⟨⟨⟨b1, b2, b3, b4, b5, b6, b7, b8⟩, hM⟩, hsup, hf2, hpe, hps, hX, hY⟩ := id hr
  refine rs_R (cc := cX1_count) (maxL := 2) (rty := .int) (by decide) rfl (Nat.le_of_ble_eq_true rfl) ?_
  intro p e s m args below meth c Q ls hx hb hml hown hts hP hK hl ret
  have f13 := hts (.fieldLink RX1 13 "RowSparse" "rows" "I") (by decide +kernel)
  have f17 := hts (.fieldLink RX1 17 "RowSparse" "cols" "I") (by decide +kernel)
  have f20 := hts (.fieldLink RX1 20 "RowSparse" "cap" "I") (by decide +kernel)
  have f50 := hts (.fieldLink RX1 50 "RowSparse" "pending" "I") (by decide +kernel)
  have hin1 : ∀ w ∈ u_ws RX1 TX1 12, w ∈ wsX1_count := by decide +kernel
  have hl : lv_has ls 2 [(0, .ref o), (1, .int i)] := hl
  have hP : va_P D vwCl [(o, .inr (1, [.int (nI K), .int (nI R), .int (nI C), .ref su, .ref sp, .ref ar, .ref ac, .ref av, .int (nI np), .ref vx, .ref py, .ref li])), (su, .inr (0, [.ref sa, .ref sb, .ref sc])), (sa, .inl (cI, S + 1, .inl f)), (sb, .inl (cI, K, .inl g)), (sc, .inl (cI, K, .inl w)), (sp, .inr (0, [.ref ta, .ref tb, .ref tc])), (ta, .inl (cI, S + 1, .inl f2)), (tb, .inl (cI, K, .inl g2)), (tc, .inl (cI, K, .inl w2)), (ar, .inl (cI, K, .inl pR)), (ac, .inl (cI, K, .inl pC)), (av, .inl (cI, K, .inl pV)), (vx, .inl (cI, S, .inl vX)), (py, .inl (cI, S, .inl pY)), (li, .inl (cI, S, .inl lI))] s.heap := hP
  refine lv_iload_n hx hb dX1_count_0 rfl (lv_at hl 1 rfl) ?_
  by_cases w0 : i = 0
  · subst w0
    refine lv_tableIn (tgt := 32) hx hb dX1_count_1 (by decide) (by decide) rfl (by decide) ?_
    refine lv_aload_n hx hb dX1_count_32 rfl (lv_at hl 0 rfl) ?_
    refine va_get (D := D) (ci := 1) (v := .int (nI R)) (C := RX1) (T := TX1) (N := 12) hx hb hts hin1 hown hK hP 0 rfl rfl 1 (by decide) f13 (fun _ h9 => h9) rfl dX1_count_33 ?_
    exact ret _ _ _ dX1_count_36 (rfl) (rfl)
  by_cases w1 : i = 1
  · subst w1
    refine lv_tableIn (tgt := 37) hx hb dX1_count_1 (by decide) (by decide) rfl (by decide) ?_
    refine lv_aload_n hx hb dX1_count_37 rfl (lv_at hl 0 rfl) ?_
    refine va_get (D := D) (ci := 1) (v := .int (nI C)) (C := RX1) (T := TX1) (N := 12) hx hb hts hin1 hown hK hP 0 rfl rfl 2 (by decide) f17 (fun _ h9 => h9) rfl dX1_count_38 ?_
    exact ret _ _ _ dX1_count_41 (rfl) (rfl)
  by_cases w2 : i = 2
  · subst w2
    refine lv_tableIn (tgt := 42) hx hb dX1_count_1 (by decide) (by decide) rfl (by decide) ?_
    refine lv_aload_n hx hb dX1_count_42 rfl (lv_at hl 0 rfl) ?_
    refine va_get (D := D) (ci := 1) (v := .int (nI K)) (C := RX1) (T := TX1) (N := 12) hx hb hts hin1 hown hK hP 0 rfl rfl 0 (by decide) f20 (fun _ h9 => h9) rfl dX1_count_43 ?_
    exact ret _ _ _ dX1_count_46 (rfl) (rfl)
  by_cases w3 : i = 3
  · subst w3
    refine lv_tableIn (tgt := 47) hx hb dX1_count_1 (by decide) (by decide) rfl (by decide) ?_
    refine lv_aload_n hx hb dX1_count_47 rfl (lv_at hl 0 rfl) ?_
    refine va_get (D := D) (ci := 1) (v := .int (nI np)) (C := RX1) (T := TX1) (N := 12) hx hb hts hin1 hown hK hP 0 rfl rfl 8 (by decide) f50 (fun _ h9 => h9) rfl dX1_count_48 ?_
    exact ret _ _ _ dX1_count_51 (rfl) (rfl)
  refine lv_tableOut (tgt := 52) hx hb dX1_count_1 (ms_out3 w0 w1 w2 w3) (by decide) ?_
  refine lv_iconst (v := (-1)) hx hb dX1_count_52 (by decide +kernel) ?_
  exact ret _ _ _ dX1_count_53 (rfl) (((if_neg w0).trans ((if_neg w1).trans ((if_neg w2).trans (if_neg w3)))).symm)

set_option maxHeartbeats 4000000 in
set_option maxRecDepth 100000 in
theorem c_add (l : Launch) (D : va_G) (cI : ClassId) (o ar ac av vx py li : Nat) (a : st_A) (u : st_C) (hr : st_rc a u) (i j v : Int32) : MetI l yX1_add wsX1_add rm_2 D [(cI, .int)] [.ref o, .int i, .int j, .int v] (st_wC cI o ar ac av vx py li a u) (fun (r : Int32) (x : st_A × st_C) => r = (an_add a i j).1 ∧ x.1 = up_add a i j v ∧ st_rc x.1 x.2) (fun x => st_wC cI o ar ac av vx py li x.1 x.2) 0 0 := by
  obtain ⟨⟨K, R, C, S, np⟩, M0, P, X, Y⟩ := a
  obtain ⟨⟨su, sa, sb, sc⟩, ⟨sp, ta, tb, tc⟩, ⟨f, g, w⟩, ⟨f2, g2, w2⟩, ⟨pR, pC, pV⟩, ⟨vX, pY, lI⟩⟩ := u
  have hr : st_RC K R C S np M0 P X Y f g w f2 pR pC pV vX pY := hr
  obtain ⟨⟨⟨b1, b2, b3, b4, b5, b6, b7, b8⟩, hM⟩, hsup, hf2, hpe, hps, hX, hY⟩ := id hr
  refine rs_I (cc := cX1_add) (maxL := 4) (rty := .boolean) (by decide) rfl (Nat.le_of_ble_eq_true rfl) ?_
  intro p e s m args below meth c Q A ls hx hb hml hown hts hP hK hD hS hA hl ret
  have f20 := hts (.fieldLink RX1 20 "RowSparse" "cap" "I") (by decide +kernel)
  have f40 := hts (.fieldLink RX1 40 "RowSparse" "pendingRows" "[I") (by decide +kernel)
  have f44 := hts (.fieldLink RX1 44 "RowSparse" "pendingCols" "[I") (by decide +kernel)
  have f47 := hts (.fieldLink RX1 47 "RowSparse" "pendingValues" "[I") (by decide +kernel)
  have f50 := hts (.fieldLink RX1 50 "RowSparse" "pending" "I") (by decide +kernel)
  have hin1 : ∀ w ∈ u_ws RX1 TX1 12, w ∈ wsX1_add := by decide +kernel
  have hl : lv_has ls 4 [(0, .ref o), (1, .int i), (2, .int j), (3, .int v)] := hl
  have hP : va_P D vwCl [(o, .inr (1, [.int (nI K), .int (nI R), .int (nI C), .ref su, .ref sp, .ref ar, .ref ac, .ref av, .int (nI np), .ref vx, .ref py, .ref li])), (su, .inr (0, [.ref sa, .ref sb, .ref sc])), (sa, .inl (cI, S + 1, .inl f)), (sb, .inl (cI, K, .inl g)), (sc, .inl (cI, K, .inl w)), (sp, .inr (0, [.ref ta, .ref tb, .ref tc])), (ta, .inl (cI, S + 1, .inl f2)), (tb, .inl (cI, K, .inl g2)), (tc, .inl (cI, K, .inl w2)), (ar, .inl (cI, K, .inl pR)), (ac, .inl (cI, K, .inl pC)), (av, .inl (cI, K, .inl pV)), (vx, .inl (cI, S, .inl vX)), (py, .inl (cI, S, .inl pY)), (li, .inl (cI, S, .inl lI))] s.heap := hP
  have hD : va_D A [(o, .inr (1, [.int (nI K), .int (nI R), .int (nI C), .ref su, .ref sp, .ref ar, .ref ac, .ref av, .int (nI np), .ref vx, .ref py, .ref li])), (su, .inr (0, [.ref sa, .ref sb, .ref sc])), (sa, .inl (cI, S + 1, .inl f)), (sb, .inl (cI, K, .inl g)), (sc, .inl (cI, K, .inl w)), (sp, .inr (0, [.ref ta, .ref tb, .ref tc])), (ta, .inl (cI, S + 1, .inl f2)), (tb, .inl (cI, K, .inl g2)), (tc, .inl (cI, K, .inl w2)), (ar, .inl (cI, K, .inl pR)), (ac, .inl (cI, K, .inl pC)), (av, .inl (cI, K, .inl pV)), (vx, .inl (cI, S, .inl vX)), (py, .inl (cI, S, .inl pY)), (li, .inl (cI, S, .inl lI))] := hD
  refine lv_aload_n hx hb dX1_add_0 rfl (lv_at hl 0 rfl) ?_
  refine lv_iload_n hx hb dX1_add_1 rfl (lv_at hl 1 rfl) ?_
  refine lv_iload_n hx hb dX1_add_2 rfl (lv_at hl 2 rfl) ?_
  refine rs_cR (As := [.int i, .int j]) (rest := []) ⟨hx, hb, hml, hown, hts⟩ hl.1 (c_hasPlace l D cI o R C (.int (nI K)) (.ref su) (.ref sp) (.ref ar) (.ref ac) (.ref av) (.int (nI np)) (.ref vx) (.ref py) (.ref li) i j (by omega) (by omega)) (cwV 2 hts gX1_add_X1_hasPlace rfl rfl rfl (by decide +kernel) ⟨Nat.le_of_ble_eq_true rfl, Nat.le_of_ble_eq_true rfl⟩) hK hP [0] rfl rfl rfl rfl rfl (Nat.le_of_ble_eq_true rfl) dX1_add_3 (Nat.le_of_ble_eq_true rfl) (Nat.le_of_ble_eq_true rfl) (fun r hv => ?_)
  subst hv
  refine lv_if_eq (tgt := 20) hx hb dX1_add_6 (by decide) (fun h1 => ?_) (fun h1 => ?_)
  · have h1 := ms_bI_0.mp h1
    refine lv_iconst (v := nI 0) hx hb dX1_add_20 (by decide +kernel) ?_
    exact ret _ _ _ _ _ (((K, R, C, S, np), M0, P, X, Y), ((su, sa, sb, sc), (sp, ta, tb, tc), (f, g, w), (f2, g2, w2), (pR, pC, pV), (vX, pY, lI))) dX1_add_21 (rfl) (⟨(an_add_f (v := v) (an_add_c1 h1)).1, (an_add_f (an_add_c1 h1)).2.symm, hr⟩) (hP.sub [0, 1, 2, 3, 4, 5, 6, 7, 8, 9, 10, 11, 12, 13, 14] rfl) (hD.sub [0, 1, 2, 3, 4, 5, 6, 7, 8, 9, 10, 11, 12, 13, 14] (by decide) rfl) hS
  · have h1 := ms_bI_n.mp h1
    refine lv_aload_n hx hb dX1_add_9 rfl (lv_at hl 0 rfl) ?_
    refine va_get (D := D) (ci := 1) (v := .int (nI np)) (C := RX1) (T := TX1) (N := 12) hx hb hts hin1 hown hK hP 0 rfl rfl 8 (by decide) f50 (fun _ h9 => h9) rfl dX1_add_10 ?_
    refine lv_aload_n hx hb dX1_add_13 rfl (lv_at hl 0 rfl) ?_
    refine va_get (D := D) (ci := 1) (v := .int (nI K)) (C := RX1) (T := TX1) (N := 12) hx hb hts hin1 hown hK hP 0 rfl rfl 0 (by decide) f20 (fun _ h9 => h9) rfl dX1_add_14 ?_
    refine rv_lt (tgt := 22) hx hb dX1_add_17 (by decide) (by omega) (by omega) (fun h2 => ?_) (fun h2 => ?_)
    · have h1 := Bool.and_eq_true_iff.mp h1
      obtain ⟨i0, hi0, rfl⟩ := ms_in_of h1.1 (by omega)
      obtain ⟨j0, hj0, rfl⟩ := ms_in_of h1.2 (by omega)
      have h9 := an_add_c3 (K := K) (np := np) hi0 hj0 (by omega) (by omega) h2
      refine lv_aload_n hx hb dX1_add_22 rfl (lv_at hl 0 rfl) ?_
      refine va_get (D := D) (ci := 1) (v := .ref ar) (C := RX1) (T := TX1) (N := 12) hx hb hts hin1 hown hK hP 0 rfl rfl 5 (by decide) f40 (fun _ h9 => h9) rfl dX1_add_23 ?_
      refine lv_aload_n hx hb dX1_add_26 rfl (lv_at hl 0 rfl) ?_
      refine va_get (D := D) (ci := 1) (v := .int (nI np)) (C := RX1) (T := TX1) (N := 12) hx hb hts hin1 hown hK hP 0 rfl rfl 8 (by decide) f50 (fun _ h9 => h9) rfl dX1_add_27 ?_
      refine lv_iload_n hx hb dX1_add_30 rfl (lv_at hl 1 rfl) ?_
      refine rv_iast hx hb hK hP hD hS 9 rfl rfl (by omega) (by omega) dX1_add_31 (fun H locs hP hD hS => ?_)
      have hP : va_P D vwCl [(o, .inr (1, [.int (nI K), .int (nI R), .int (nI C), .ref su, .ref sp, .ref ar, .ref ac, .ref av, .int (nI np), .ref vx, .ref py, .ref li])), (su, .inr (0, [.ref sa, .ref sb, .ref sc])), (sa, .inl (cI, S + 1, .inl f)), (sb, .inl (cI, K, .inl g)), (sc, .inl (cI, K, .inl w)), (sp, .inr (0, [.ref ta, .ref tb, .ref tc])), (ta, .inl (cI, S + 1, .inl f2)), (tb, .inl (cI, K, .inl g2)), (tc, .inl (cI, K, .inl w2)), (ar, .inl (cI, K, .inl (upd pR np (nI i0)))), (ac, .inl (cI, K, .inl pC)), (av, .inl (cI, K, .inl pV)), (vx, .inl (cI, S, .inl vX)), (py, .inl (cI, S, .inl pY)), (li, .inl (cI, S, .inl lI))] H := hP
      have hD : va_D A [(o, .inr (1, [.int (nI K), .int (nI R), .int (nI C), .ref su, .ref sp, .ref ar, .ref ac, .ref av, .int (nI np), .ref vx, .ref py, .ref li])), (su, .inr (0, [.ref sa, .ref sb, .ref sc])), (sa, .inl (cI, S + 1, .inl f)), (sb, .inl (cI, K, .inl g)), (sc, .inl (cI, K, .inl w)), (sp, .inr (0, [.ref ta, .ref tb, .ref tc])), (ta, .inl (cI, S + 1, .inl f2)), (tb, .inl (cI, K, .inl g2)), (tc, .inl (cI, K, .inl w2)), (ar, .inl (cI, K, .inl (upd pR np (nI i0)))), (ac, .inl (cI, K, .inl pC)), (av, .inl (cI, K, .inl pV)), (vx, .inl (cI, S, .inl vX)), (py, .inl (cI, S, .inl pY)), (li, .inl (cI, S, .inl lI))] := hD
      refine lv_aload_n hx hb dX1_add_32 rfl (lv_at hl 0 rfl) ?_
      refine va_get (D := D) (ci := 1) (v := .ref ac) (C := RX1) (T := TX1) (N := 12) hx hb hts hin1 hown hK hP 0 rfl rfl 6 (by decide) f44 (fun _ h9 => h9) rfl dX1_add_33 ?_
      refine lv_aload_n hx hb dX1_add_36 rfl (lv_at hl 0 rfl) ?_
      refine va_get (D := D) (ci := 1) (v := .int (nI np)) (C := RX1) (T := TX1) (N := 12) hx hb hts hin1 hown hK hP 0 rfl rfl 8 (by decide) f50 (fun _ h9 => h9) rfl dX1_add_37 ?_
      refine lv_iload_n hx hb dX1_add_40 rfl (lv_at hl 2 rfl) ?_
      refine rv_iast hx hb hK hP hD hS 10 rfl rfl (by omega) (by omega) dX1_add_41 (fun H locs hP hD hS => ?_)
      have hP : va_P D vwCl [(o, .inr (1, [.int (nI K), .int (nI R), .int (nI C), .ref su, .ref sp, .ref ar, .ref ac, .ref av, .int (nI np), .ref vx, .ref py, .ref li])), (su, .inr (0, [.ref sa, .ref sb, .ref sc])), (sa, .inl (cI, S + 1, .inl f)), (sb, .inl (cI, K, .inl g)), (sc, .inl (cI, K, .inl w)), (sp, .inr (0, [.ref ta, .ref tb, .ref tc])), (ta, .inl (cI, S + 1, .inl f2)), (tb, .inl (cI, K, .inl g2)), (tc, .inl (cI, K, .inl w2)), (ar, .inl (cI, K, .inl (upd pR np (nI i0)))), (ac, .inl (cI, K, .inl (upd pC np (nI j0)))), (av, .inl (cI, K, .inl pV)), (vx, .inl (cI, S, .inl vX)), (py, .inl (cI, S, .inl pY)), (li, .inl (cI, S, .inl lI))] H := hP
      have hD : va_D A [(o, .inr (1, [.int (nI K), .int (nI R), .int (nI C), .ref su, .ref sp, .ref ar, .ref ac, .ref av, .int (nI np), .ref vx, .ref py, .ref li])), (su, .inr (0, [.ref sa, .ref sb, .ref sc])), (sa, .inl (cI, S + 1, .inl f)), (sb, .inl (cI, K, .inl g)), (sc, .inl (cI, K, .inl w)), (sp, .inr (0, [.ref ta, .ref tb, .ref tc])), (ta, .inl (cI, S + 1, .inl f2)), (tb, .inl (cI, K, .inl g2)), (tc, .inl (cI, K, .inl w2)), (ar, .inl (cI, K, .inl (upd pR np (nI i0)))), (ac, .inl (cI, K, .inl (upd pC np (nI j0)))), (av, .inl (cI, K, .inl pV)), (vx, .inl (cI, S, .inl vX)), (py, .inl (cI, S, .inl pY)), (li, .inl (cI, S, .inl lI))] := hD
      refine lv_aload_n hx hb dX1_add_42 rfl (lv_at hl 0 rfl) ?_
      refine va_get (D := D) (ci := 1) (v := .ref av) (C := RX1) (T := TX1) (N := 12) hx hb hts hin1 hown hK hP 0 rfl rfl 7 (by decide) f47 (fun _ h9 => h9) rfl dX1_add_43 ?_
      refine lv_aload_n hx hb dX1_add_46 rfl (lv_at hl 0 rfl) ?_
      refine va_get (D := D) (ci := 1) (v := .int (nI np)) (C := RX1) (T := TX1) (N := 12) hx hb hts hin1 hown hK hP 0 rfl rfl 8 (by decide) f50 (fun _ h9 => h9) rfl dX1_add_47 ?_
      refine lv_iload_n hx hb dX1_add_50 rfl (lv_at hl 3 rfl) ?_
      refine rv_iast hx hb hK hP hD hS 11 rfl rfl (by omega) (by omega) dX1_add_51 (fun H locs hP hD hS => ?_)
      have hP : va_P D vwCl [(o, .inr (1, [.int (nI K), .int (nI R), .int (nI C), .ref su, .ref sp, .ref ar, .ref ac, .ref av, .int (nI np), .ref vx, .ref py, .ref li])), (su, .inr (0, [.ref sa, .ref sb, .ref sc])), (sa, .inl (cI, S + 1, .inl f)), (sb, .inl (cI, K, .inl g)), (sc, .inl (cI, K, .inl w)), (sp, .inr (0, [.ref ta, .ref tb, .ref tc])), (ta, .inl (cI, S + 1, .inl f2)), (tb, .inl (cI, K, .inl g2)), (tc, .inl (cI, K, .inl w2)), (ar, .inl (cI, K, .inl (upd pR np (nI i0)))), (ac, .inl (cI, K, .inl (upd pC np (nI j0)))), (av, .inl (cI, K, .inl (upd pV np v))), (vx, .inl (cI, S, .inl vX)), (py, .inl (cI, S, .inl pY)), (li, .inl (cI, S, .inl lI))] H := hP
      have hD : va_D A [(o, .inr (1, [.int (nI K), .int (nI R), .int (nI C), .ref su, .ref sp, .ref ar, .ref ac, .ref av, .int (nI np), .ref vx, .ref py, .ref li])), (su, .inr (0, [.ref sa, .ref sb, .ref sc])), (sa, .inl (cI, S + 1, .inl f)), (sb, .inl (cI, K, .inl g)), (sc, .inl (cI, K, .inl w)), (sp, .inr (0, [.ref ta, .ref tb, .ref tc])), (ta, .inl (cI, S + 1, .inl f2)), (tb, .inl (cI, K, .inl g2)), (tc, .inl (cI, K, .inl w2)), (ar, .inl (cI, K, .inl (upd pR np (nI i0)))), (ac, .inl (cI, K, .inl (upd pC np (nI j0)))), (av, .inl (cI, K, .inl (upd pV np v))), (vx, .inl (cI, S, .inl vX)), (py, .inl (cI, S, .inl pY)), (li, .inl (cI, S, .inl lI))] := hD
      refine lv_aload_n hx hb dX1_add_52 rfl (lv_at hl 0 rfl) ?_
      refine lv_dup hx hb dX1_add_53 rfl ?_
      refine va_get (D := D) (ci := 1) (v := .int (nI np)) (C := RX1) (T := TX1) (N := 12) hx hb hts hin1 hown hK hP 0 rfl rfl 8 (by decide) f50 (fun _ h9 => h9) rfl dX1_add_54 ?_
      refine lv_iconst (v := nI 1) hx hb dX1_add_57 (by decide +kernel) ?_
      refine rv_iadd hx hb dX1_add_58 ?_
      refine va_put (D := D) (ci := 1) (v := .int (nI (np + 1))) (ty := .int) (C := RX1) (T := TX1) (N := 12) hx hb hts hin1 tyX1 tyX1_ok nmX1 hown hK hP hD hS 0 rfl rfl 8 (by decide) f50 (fun _ h9 => h9) rfl (by decide +kernel) rfl rfl (Nat.le_of_ble_eq_true rfl) dX1_add_59 (fun H locs hP hD hS => ?_)
      have hP : va_P D vwCl [(o, .inr (1, [.int (nI K), .int (nI R), .int (nI C), .ref su, .ref sp, .ref ar, .ref ac, .ref av, .int (nI (np + 1)), .ref vx, .ref py, .ref li])), (su, .inr (0, [.ref sa, .ref sb, .ref sc])), (sa, .inl (cI, S + 1, .inl f)), (sb, .inl (cI, K, .inl g)), (sc, .inl (cI, K, .inl w)), (sp, .inr (0, [.ref ta, .ref tb, .ref tc])), (ta, .inl (cI, S + 1, .inl f2)), (tb, .inl (cI, K, .inl g2)), (tc, .inl (cI, K, .inl w2)), (ar, .inl (cI, K, .inl (upd pR np (nI i0)))), (ac, .inl (cI, K, .inl (upd pC np (nI j0)))), (av, .inl (cI, K, .inl (upd pV np v))), (vx, .inl (cI, S, .inl vX)), (py, .inl (cI, S, .inl pY)), (li, .inl (cI, S, .inl lI))] H := hP
      have hD : va_D A [(o, .inr (1, [.int (nI K), .int (nI R), .int (nI C), .ref su, .ref sp, .ref ar, .ref ac, .ref av, .int (nI (np + 1)), .ref vx, .ref py, .ref li])), (su, .inr (0, [.ref sa, .ref sb, .ref sc])), (sa, .inl (cI, S + 1, .inl f)), (sb, .inl (cI, K, .inl g)), (sc, .inl (cI, K, .inl w)), (sp, .inr (0, [.ref ta, .ref tb, .ref tc])), (ta, .inl (cI, S + 1, .inl f2)), (tb, .inl (cI, K, .inl g2)), (tc, .inl (cI, K, .inl w2)), (ar, .inl (cI, K, .inl (upd pR np (nI i0)))), (ac, .inl (cI, K, .inl (upd pC np (nI j0)))), (av, .inl (cI, K, .inl (upd pV np v))), (vx, .inl (cI, S, .inl vX)), (py, .inl (cI, S, .inl pY)), (li, .inl (cI, S, .inl lI))] := hD
      refine lv_iconst (v := nI 1) hx hb dX1_add_62 (by decide +kernel) ?_
      exact ret _ _ _ _ _ (((K, R, C, S, np + 1), M0, (fun a b => if nI a = nI i0 ∧ nI b = nI j0 then P a b + v else P a b), X, Y), ((su, sa, sb, sc), (sp, ta, tb, tc), (f, g, w), (f2, g2, w2), (upd pR np (nI i0), upd pC np (nI j0), upd pV np v), (vX, pY, lI))) dX1_add_63 (rfl) (⟨(an_add_t (v := v) h9).1, (an_add_t h9).2.symm, st_adds hr hi0 hj0 h2⟩) (hP.sub [0, 1, 2, 3, 4, 5, 6, 7, 8, 9, 10, 11, 12, 13, 14] rfl) (hD.sub [0, 1, 2, 3, 4, 5, 6, 7, 8, 9, 10, 11, 12, 13, 14] (by decide) rfl) hS
    · refine lv_iconst (v := nI 0) hx hb dX1_add_20 (by decide +kernel) ?_
      exact ret _ _ _ _ _ (((K, R, C, S, np), M0, P, X, Y), ((su, sa, sb, sc), (sp, ta, tb, tc), (f, g, w), (f2, g2, w2), (pR, pC, pV), (vX, pY, lI))) dX1_add_21 (rfl) (⟨(an_add_f (v := v) (an_add_c2 h2)).1, (an_add_f (an_add_c2 h2)).2.symm, hr⟩) (hP.sub [0, 1, 2, 3, 4, 5, 6, 7, 8, 9, 10, 11, 12, 13, 14] rfl) (hD.sub [0, 1, 2, 3, 4, 5, 6, 7, 8, 9, 10, 11, 12, 13, 14] (by decide) rfl) hS

set_option maxHeartbeats 4000000 in
set_option maxRecDepth 100000 in
theorem c_setX (l : Launch) (D : va_G) (cI : ClassId) (o ar ac av vx py li : Nat) (a : st_A) (u : st_C) (hr : st_rc a u) (j v : Int32) : MetI l yX1_setX wsX1_setX rm_1 D [(cI, .int)] [.ref o, .int j, .int v] (st_wC cI o ar ac av vx py li a u) (fun (r : Int32) (x : st_A × st_C) => r = an_setX a j ∧ x.1 = up_setX a j v ∧ st_rc x.1 x.2) (fun x => st_wC cI o ar ac av vx py li x.1 x.2) 0 0 := by
  obtain ⟨⟨K, R, C, S, np⟩, M0, P, X, Y⟩ := a
  obtain ⟨⟨su, sa, sb, sc⟩, ⟨sp, ta, tb, tc⟩, ⟨f, g, w⟩, ⟨f2, g2, w2⟩, ⟨pR, pC, pV⟩, ⟨vX, pY, lI⟩⟩ := u
  have hr : st_RC K R C S np M0 P X Y f g w f2 pR pC pV vX pY := hr
  obtain ⟨⟨⟨b1, b2, b3, b4, b5, b6, b7, b8⟩, hM⟩, hsup, hf2, hpe, hps, hX, hY⟩ := id hr
  refine rs_I (cc := cX1_setX) (maxL := 3) (rty := .boolean) (by decide) rfl (Nat.le_of_ble_eq_true rfl) ?_
  intro p e s m args below meth c Q A ls hx hb hml hown hts hP hK hD hS hA hl ret
  have f17 := hts (.fieldLink RX1 17 "RowSparse" "cols" "I") (by decide +kernel)
  have f53 := hts (.fieldLink RX1 53 "RowSparse" "vector" "[I") (by decide +kernel)
  have hin1 : ∀ w ∈ u_ws RX1 TX1 12, w ∈ wsX1_setX := by decide +kernel
  have hl : lv_has ls 3 [(0, .ref o), (1, .int j), (2, .int v)] := hl
  have hP : va_P D vwCl [(o, .inr (1, [.int (nI K), .int (nI R), .int (nI C), .ref su, .ref sp, .ref ar, .ref ac, .ref av, .int (nI np), .ref vx, .ref py, .ref li])), (su, .inr (0, [.ref sa, .ref sb, .ref sc])), (sa, .inl (cI, S + 1, .inl f)), (sb, .inl (cI, K, .inl g)), (sc, .inl (cI, K, .inl w)), (sp, .inr (0, [.ref ta, .ref tb, .ref tc])), (ta, .inl (cI, S + 1, .inl f2)), (tb, .inl (cI, K, .inl g2)), (tc, .inl (cI, K, .inl w2)), (ar, .inl (cI, K, .inl pR)), (ac, .inl (cI, K, .inl pC)), (av, .inl (cI, K, .inl pV)), (vx, .inl (cI, S, .inl vX)), (py, .inl (cI, S, .inl pY)), (li, .inl (cI, S, .inl lI))] s.heap := hP
  have hD : va_D A [(o, .inr (1, [.int (nI K), .int (nI R), .int (nI C), .ref su, .ref sp, .ref ar, .ref ac, .ref av, .int (nI np), .ref vx, .ref py, .ref li])), (su, .inr (0, [.ref sa, .ref sb, .ref sc])), (sa, .inl (cI, S + 1, .inl f)), (sb, .inl (cI, K, .inl g)), (sc, .inl (cI, K, .inl w)), (sp, .inr (0, [.ref ta, .ref tb, .ref tc])), (ta, .inl (cI, S + 1, .inl f2)), (tb, .inl (cI, K, .inl g2)), (tc, .inl (cI, K, .inl w2)), (ar, .inl (cI, K, .inl pR)), (ac, .inl (cI, K, .inl pC)), (av, .inl (cI, K, .inl pV)), (vx, .inl (cI, S, .inl vX)), (py, .inl (cI, S, .inl pY)), (li, .inl (cI, S, .inl lI))] := hD
  refine lv_iload_n hx hb dX1_setX_0 rfl (lv_at hl 1 rfl) ?_
  refine lv_aload_n hx hb dX1_setX_1 rfl (lv_at hl 0 rfl) ?_
  refine va_get (D := D) (ci := 1) (v := .int (nI C)) (C := RX1) (T := TX1) (N := 12) hx hb hts hin1 hown hK hP 0 rfl rfl 2 (by decide) f17 (fun _ h9 => h9) rfl dX1_setX_2 ?_
  refine rs_cRS (As := [.int j, .int (nI C)]) (rest := []) ⟨hx, hb, hml, hown, hts⟩ hl.1 (c_isWithin l D cI j C (by omega)) (va_cwS 2 hts gX1_setX_X1_isWithin rfl rfl rfl (by decide +kernel) ⟨Nat.le_of_ble_eq_true rfl, Nat.le_of_ble_eq_true rfl⟩) hK hP [] rfl rfl rfl (Nat.le_of_ble_eq_true rfl) dX1_setX_5 (Nat.le_of_ble_eq_true rfl) (Nat.le_of_ble_eq_true rfl) (fun r hv => ?_)
  subst hv
  refine lv_if_ne (tgt := 13) hx hb dX1_setX_8 (by decide) (fun h1 => ?_) (fun h1 => ?_)
  · have h1 := ms_bI_n.mp h1
    obtain ⟨j0, hj0, rfl⟩ := ms_in_of h1 (by omega)
    refine lv_aload_n hx hb dX1_setX_13 rfl (lv_at hl 0 rfl) ?_
    refine va_get (D := D) (ci := 1) (v := .ref vx) (C := RX1) (T := TX1) (N := 12) hx hb hts hin1 hown hK hP 0 rfl rfl 9 (by decide) f53 (fun _ h9 => h9) rfl dX1_setX_14 ?_
    refine lv_iload_n hx hb dX1_setX_17 rfl (lv_at hl 1 rfl) ?_
    refine lv_iload_n hx hb dX1_setX_18 rfl (lv_at hl 2 rfl) ?_
    refine rv_iast hx hb hK hP hD hS 12 rfl rfl (by omega) (by omega) dX1_setX_19 (fun H locs hP hD hS => ?_)
    have hP : va_P D vwCl [(o, .inr (1, [.int (nI K), .int (nI R), .int (nI C), .ref su, .ref sp, .ref ar, .ref ac, .ref av, .int (nI np), .ref vx, .ref py, .ref li])), (su, .inr (0, [.ref sa, .ref sb, .ref sc])), (sa, .inl (cI, S + 1, .inl f)), (sb, .inl (cI, K, .inl g)), (sc, .inl (cI, K, .inl w)), (sp, .inr (0, [.ref ta, .ref tb, .ref tc])), (ta, .inl (cI, S + 1, .inl f2)), (tb, .inl (cI, K, .inl g2)), (tc, .inl (cI, K, .inl w2)), (ar, .inl (cI, K, .inl pR)), (ac, .inl (cI, K, .inl pC)), (av, .inl (cI, K, .inl pV)), (vx, .inl (cI, S, .inl (upd vX j0 v))), (py, .inl (cI, S, .inl pY)), (li, .inl (cI, S, .inl lI))] H := hP
    have hD : va_D A [(o, .inr (1, [.int (nI K), .int (nI R), .int (nI C), .ref su, .ref sp, .ref ar, .ref ac, .ref av, .int (nI np), .ref vx, .ref py, .ref li])), (su, .inr (0, [.ref sa, .ref sb, .ref sc])), (sa, .inl (cI, S + 1, .inl f)), (sb, .inl (cI, K, .inl g)), (sc, .inl (cI, K, .inl w)), (sp, .inr (0, [.ref ta, .ref tb, .ref tc])), (ta, .inl (cI, S + 1, .inl f2)), (tb, .inl (cI, K, .inl g2)), (tc, .inl (cI, K, .inl w2)), (ar, .inl (cI, K, .inl pR)), (ac, .inl (cI, K, .inl pC)), (av, .inl (cI, K, .inl pV)), (vx, .inl (cI, S, .inl (upd vX j0 v))), (py, .inl (cI, S, .inl pY)), (li, .inl (cI, S, .inl lI))] := hD
    refine lv_iconst (v := nI 1) hx hb dX1_setX_20 (by decide +kernel) ?_
    exact ret _ _ _ _ _ (((K, R, C, S, np), M0, P, upd X j0 v, Y), ((su, sa, sb, sc), (sp, ta, tb, tc), (f, g, w), (f2, g2, w2), (pR, pC, pV), (upd vX j0 v, pY, lI))) dX1_setX_21 (rfl) (⟨(an_setX_t (v := v) hj0 (by omega)).1, (an_setX_t hj0 (by omega)).2.symm, st_setx hr⟩) (hP.sub [0, 1, 2, 3, 4, 5, 6, 7, 8, 9, 10, 11, 12, 13, 14] rfl) (hD.sub [0, 1, 2, 3, 4, 5, 6, 7, 8, 9, 10, 11, 12, 13, 14] (by decide) rfl) hS
  · have h1 := ms_bI_0.mp h1
    refine lv_iconst (v := nI 0) hx hb dX1_setX_11 (by decide +kernel) ?_
    exact ret _ _ _ _ _ (((K, R, C, S, np), M0, P, X, Y), ((su, sa, sb, sc), (sp, ta, tb, tc), (f, g, w), (f2, g2, w2), (pR, pC, pV), (vX, pY, lI))) dX1_setX_12 (rfl) (⟨(an_setX_f (v := v) h1).1, (an_setX_f h1).2.symm, hr⟩) (hP.sub [0, 1, 2, 3, 4, 5, 6, 7, 8, 9, 10, 11, 12, 13, 14] rfl) (hD.sub [0, 1, 2, 3, 4, 5, 6, 7, 8, 9, 10, 11, 12, 13, 14] (by decide) rfl) hS

set_option maxHeartbeats 4000000 in
set_option maxRecDepth 100000 in
theorem c_multiplyVector (l : Launch) (D : va_G) (cI : ClassId) (o ar ac av vx py li : Nat) (a : st_A) (u : st_C) (hr : st_rc a u)  : MetI l yX1_multiplyVector wsX1_multiplyVector rm_1 D [(cI, .int)] [.ref o] (st_wC cI o ar ac av vx py li a u) (fun (r : Int32) (x : st_A × st_C) => r = 1 ∧ x.1 = up_mul a ∧ st_rc x.1 x.2) (fun x => st_wC cI o ar ac av vx py li x.1 x.2) 0 0 := by
  obtain ⟨⟨K, R, C, S, np⟩, M0, P, X, Y⟩ := a
  obtain ⟨⟨su, sa, sb, sc⟩, ⟨sp, ta, tb, tc⟩, ⟨f, g, w⟩, ⟨f2, g2, w2⟩, ⟨pR, pC, pV⟩, ⟨vX, pY, lI⟩⟩ := u
  have hr : st_RC K R C S np M0 P X Y f g w f2 pR pC pV vX pY := hr
  obtain ⟨⟨⟨b1, b2, b3, b4, b5, b6, b7, b8⟩, hM⟩, hsup, hf2, hpe, hps, hX, hY⟩ := id hr
  refine rs_I (cc := cX1_multiplyVector) (maxL := 2) (rty := .boolean) (by decide) rfl (Nat.le_of_ble_eq_true rfl) ?_
  intro p e s m args below meth c Q A ls hx hb hml hown hts hP hK hD hS hA hl ret
  have f13 := hts (.fieldLink RX1 13 "RowSparse" "rows" "I") (by decide +kernel)
  have f33 := hts (.fieldLink RX1 33 "RowSparse" "support" "LRowSparse$Support;") (by decide +kernel)
  have f53 := hts (.fieldLink RX1 53 "RowSparse" "vector" "[I") (by decide +kernel)
  have f56 := hts (.fieldLink RX1 56 "RowSparse" "product" "[I") (by decide +kernel)
  have hin1 : ∀ w ∈ u_ws RX1 TX1 12, w ∈ wsX1_multiplyVector := by decide +kernel
  have hl : lv_has ls 2 [(0, .ref o)] := hl
  have hP : va_P D vwCl [(o, .inr (1, [.int (nI K), .int (nI R), .int (nI C), .ref su, .ref sp, .ref ar, .ref ac, .ref av, .int (nI np), .ref vx, .ref py, .ref li])), (su, .inr (0, [.ref sa, .ref sb, .ref sc])), (sa, .inl (cI, S + 1, .inl f)), (sb, .inl (cI, K, .inl g)), (sc, .inl (cI, K, .inl w)), (sp, .inr (0, [.ref ta, .ref tb, .ref tc])), (ta, .inl (cI, S + 1, .inl f2)), (tb, .inl (cI, K, .inl g2)), (tc, .inl (cI, K, .inl w2)), (ar, .inl (cI, K, .inl pR)), (ac, .inl (cI, K, .inl pC)), (av, .inl (cI, K, .inl pV)), (vx, .inl (cI, S, .inl vX)), (py, .inl (cI, S, .inl pY)), (li, .inl (cI, S, .inl lI))] s.heap := hP
  have hD : va_D A [(o, .inr (1, [.int (nI K), .int (nI R), .int (nI C), .ref su, .ref sp, .ref ar, .ref ac, .ref av, .int (nI np), .ref vx, .ref py, .ref li])), (su, .inr (0, [.ref sa, .ref sb, .ref sc])), (sa, .inl (cI, S + 1, .inl f)), (sb, .inl (cI, K, .inl g)), (sc, .inl (cI, K, .inl w)), (sp, .inr (0, [.ref ta, .ref tb, .ref tc])), (ta, .inl (cI, S + 1, .inl f2)), (tb, .inl (cI, K, .inl g2)), (tc, .inl (cI, K, .inl w2)), (ar, .inl (cI, K, .inl pR)), (ac, .inl (cI, K, .inl pC)), (av, .inl (cI, K, .inl pV)), (vx, .inl (cI, S, .inl vX)), (py, .inl (cI, S, .inl pY)), (li, .inl (cI, S, .inl lI))] := hD
  refine lv_iconst (v := nI 0) hx hb dX1_multiplyVector_0 (by decide +kernel) ?_
  refine lv_istore_n (lv' := [(1, .int (nI 0)), (0, .ref o)]) hx hb dX1_multiplyVector_1 rfl hl (by decide) rfl (fun ls hl => ?_)
  have L2 : ∀ (k2 : Nat) (i : Nat) (y1 : Nat → Int32) (H : Heap) (locs : List Loc) (ls : Array Slot), i + k2 = R → (∀ t, t < i → y1 t = ms_sm (fun j => M0 t j * vX j) S) → va_P D vwCl [(o, .inr (1, [.int (nI K), .int (nI R), .int (nI C), .ref su, .ref sp, .ref ar, .ref ac, .ref av, .int (nI np), .ref vx, .ref py, .ref li])), (su, .inr (0, [.ref sa, .ref sb, .ref sc])), (sa, .inl (cI, S + 1, .inl f)), (sb, .inl (cI, K, .inl g)), (sc, .inl (cI, K, .inl w)), (sp, .inr (0, [.ref ta, .ref tb, .ref tc])), (ta, .inl (cI, S + 1, .inl f2)), (tb, .inl (cI, K, .inl g2)), (tc, .inl (cI, K, .inl w2)), (ar, .inl (cI, K, .inl pR)), (ac, .inl (cI, K, .inl pC)), (av, .inl (cI, K, .inl pV)), (vx, .inl (cI, S, .inl vX)), (py, .inl (cI, S, .inl y1)), (li, .inl (cI, S, .inl lI))] H → va_D A [(o, .inr (1, [.int (nI K), .int (nI R), .int (nI C), .ref su, .ref sp, .ref ar, .ref ac, .ref av, .int (nI np), .ref vx, .ref py, .ref li])), (su, .inr (0, [.ref sa, .ref sb, .ref sc])), (sa, .inl (cI, S + 1, .inl f)), (sb, .inl (cI, K, .inl g)), (sc, .inl (cI, K, .inl w)), (sp, .inr (0, [.ref ta, .ref tb, .ref tc])), (ta, .inl (cI, S + 1, .inl f2)), (tb, .inl (cI, K, .inl g2)), (tc, .inl (cI, K, .inl w2)), (ar, .inl (cI, K, .inl pR)), (ac, .inl (cI, K, .inl pC)), (av, .inl (cI, K, .inl pV)), (vx, .inl (cI, S, .inl vX)), (py, .inl (cI, S, .inl y1)), (li, .inl (cI, S, .inl lI))] → va_S A s.heap H locs → lv_has ls 2 [(1, .int (nI i)), (0, .ref o)] → W p l e rm_1 s m args below meth c H locs 0 0 Q (F0 m 2 ls []) := by
    intro k2
    induction k2 with
    | zero =>
      intro i y1 H locs ls hk2 hy hP hD hS hl
      refine lv_iload_n hx hb dX1_multiplyVector_2 rfl (lv_at hl 0 rfl) ?_
      refine lv_aload_n hx hb dX1_multiplyVector_3 rfl (lv_at hl 1 rfl) ?_
      refine va_get (D := D) (ci := 1) (v := .int (nI R)) (C := RX1) (T := TX1) (N := 12) hx hb hts hin1 hown hK hP 0 rfl rfl 1 (by decide) f13 (fun _ h9 => h9) rfl dX1_multiplyVector_4 ?_
      refine rv_ge_t (tgt := 34) hx hb dX1_multiplyVector_7 (by decide) (by omega) (by omega) ?_
      refine lv_iconst (v := nI 1) hx hb dX1_multiplyVector_34 (by decide +kernel) ?_
      exact ret _ _ _ _ _ (((K, R, C, S, np), M0, P, X, fun i => ms_sm (fun j => M0 i j * X j) C), ((su, sa, sb, sc), (sp, ta, tb, tc), (f, g, w), (f2, g2, w2), (pR, pC, pV), (vX, y1, lI))) dX1_multiplyVector_35 (rfl) (⟨ms_n1, rfl, st_mul hr (fun t ht => hy t (by omega))⟩) (hP.sub [0, 1, 2, 3, 4, 5, 6, 7, 8, 9, 10, 11, 12, 13, 14] rfl) (hD.sub [0, 1, 2, 3, 4, 5, 6, 7, 8, 9, 10, 11, 12, 13, 14] (by decide) rfl) hS
    | succ k2 ih2 =>
      intro i y1 H locs ls hk2 hy hP hD hS hl
      have hi0 : i < R := by omega
      obtain ⟨e0, e1, h01, h1k, e2⟩ := ms_Sq hsup hi0
      refine lv_iload_n hx hb dX1_multiplyVector_2 rfl (lv_at hl 0 rfl) ?_
      refine lv_aload_n hx hb dX1_multiplyVector_3 rfl (lv_at hl 1 rfl) ?_
      refine va_get (D := D) (ci := 1) (v := .int (nI R)) (C := RX1) (T := TX1) (N := 12) hx hb hts hin1 hown hK hP 0 rfl rfl 1 (by decide) f13 (fun _ h9 => h9) rfl dX1_multiplyVector_4 ?_
      refine rv_ge_f (tgt := 34) hx hb dX1_multiplyVector_7 (by decide) (by omega) (by omega) ?_
      refine lv_aload_n hx hb dX1_multiplyVector_10 rfl (lv_at hl 1 rfl) ?_
      refine va_get (D := D) (ci := 1) (v := .ref py) (C := RX1) (T := TX1) (N := 12) hx hb hts hin1 hown hK hP 0 rfl rfl 10 (by decide) f56 (fun _ h9 => h9) rfl dX1_multiplyVector_11 ?_
      refine lv_iload_n hx hb dX1_multiplyVector_14 rfl (lv_at hl 0 rfl) ?_
      refine lv_aload_n hx hb dX1_multiplyVector_15 rfl (lv_at hl 1 rfl) ?_
      refine va_get (D := D) (ci := 1) (v := .ref su) (C := RX1) (T := TX1) (N := 12) hx hb hts hin1 hown hK hP 0 rfl rfl 3 (by decide) f33 (fun _ h9 => h9) rfl dX1_multiplyVector_16 ?_
      refine lv_iload_n hx hb dX1_multiplyVector_19 rfl (lv_at hl 0 rfl) ?_
      refine lv_aload_n hx hb dX1_multiplyVector_20 rfl (lv_at hl 1 rfl) ?_
      refine va_get (D := D) (ci := 1) (v := .ref vx) (C := RX1) (T := TX1) (N := 12) hx hb hts hin1 hown hK hP 0 rfl rfl 9 (by decide) f53 (fun _ h9 => h9) rfl dX1_multiplyVector_21 ?_
      refine rs_cR (As := [.int (nI i), .ref vx]) (rest := [.int (nI i), .ref py]) ⟨hx, hb, hml, hown, hts⟩ hl.1 (c_rowTimes l D cI su sa sb sc (S + 1) K f g w vx S vX (ms_J g (ms_sc M0 S i)) i (ms_sc M0 S i) (ms_sc M0 S (i + 1)) (by omega) (by omega) (by omega) e0 e1 h01 h1k (by omega) (fun t ht => ⟨(ms_Jt hsup (by omega) hi0 (show t < ms_rc (M0 i) S by omega)).2.2.1, (ms_Jt hsup (by omega) hi0 (show t < ms_rc (M0 i) S by omega)).1⟩)) (cwV 2 hts gX1_multiplyVector_X0_rowTimes rfl rfl rfl (by decide +kernel) ⟨Nat.le_of_ble_eq_true rfl, Nat.le_of_ble_eq_true rfl⟩) hK hP [1, 2, 3, 4, 12] rfl rfl rfl rfl rfl (Nat.le_of_ble_eq_true rfl) dX1_multiplyVector_24 (Nat.le_of_ble_eq_true rfl) (Nat.le_of_ble_eq_true rfl) (fun r hv => ?_)
      have hv : r = ms_sm (fun j => M0 i j * vX j) S := by
        rw [hv, e2]
        exact ms_rowsum hsup (by omega) hi0 (fun j v => v * vX j) (fun j => Int32.zero_mul)
      subst hv
      refine rv_iast hx hb hK hP hD hS 13 rfl rfl (by omega) (by omega) dX1_multiplyVector_27 (fun H locs hP hD hS => ?_)
      have hP : va_P D vwCl [(o, .inr (1, [.int (nI K), .int (nI R), .int (nI C), .ref su, .ref sp, .ref ar, .ref ac, .ref av, .int (nI np), .ref vx, .ref py, .ref li])), (su, .inr (0, [.ref sa, .ref sb, .ref sc])), (sa, .inl (cI, S + 1, .inl f)), (sb, .inl (cI, K, .inl g)), (sc, .inl (cI, K, .inl w)), (sp, .inr (0, [.ref ta, .ref tb, .ref tc])), (ta, .inl (cI, S + 1, .inl f2)), (tb, .inl (cI, K, .inl g2)), (tc, .inl (cI, K, .inl w2)), (ar, .inl (cI, K, .inl pR)), (ac, .inl (cI, K, .inl pC)), (av, .inl (cI, K, .inl pV)), (vx, .inl (cI, S, .inl vX)), (py, .inl (cI, S, .inl (upd y1 i (ms_sm (fun j => M0 i j * vX j) S)))), (li, .inl (cI, S, .inl lI))] H := hP
      have hD : va_D A [(o, .inr (1, [.int (nI K), .int (nI R), .int (nI C), .ref su, .ref sp, .ref ar, .ref ac, .ref av, .int (nI np), .ref vx, .ref py, .ref li])), (su, .inr (0, [.ref sa, .ref sb, .ref sc])), (sa, .inl (cI, S + 1, .inl f)), (sb, .inl (cI, K, .inl g)), (sc, .inl (cI, K, .inl w)), (sp, .inr (0, [.ref ta, .ref tb, .ref tc])), (ta, .inl (cI, S + 1, .inl f2)), (tb, .inl (cI, K, .inl g2)), (tc, .inl (cI, K, .inl w2)), (ar, .inl (cI, K, .inl pR)), (ac, .inl (cI, K, .inl pC)), (av, .inl (cI, K, .inl pV)), (vx, .inl (cI, S, .inl vX)), (py, .inl (cI, S, .inl (upd y1 i (ms_sm (fun j => M0 i j * vX j) S)))), (li, .inl (cI, S, .inl lI))] := hD
      refine lv_iinc (v := nI (i + 1)) (lv' := [(1, .int (nI (i + 1))), (0, .ref o)]) hx hb dX1_multiplyVector_28 hl (k := 0) rfl (rv_inc _) (by decide) rfl (fun ls hl => ?_)
      refine lv_goto (tgt := 2) hx hb dX1_multiplyVector_31 (by decide) ?_
      exact ih2 (i + 1) (upd y1 i (ms_sm (fun j => M0 i j * vX j) S)) _ _ _ (by omega) (ms_updstep (F := fun t => ms_sm (fun j => M0 t j * vX j) S) hy) (hP.sub [0, 1, 2, 3, 4, 5, 6, 7, 8, 9, 10, 11, 12, 13, 14] rfl) (hD.sub [0, 1, 2, 3, 4, 5, 6, 7, 8, 9, 10, 11, 12, 13, 14] (by decide) rfl) hS (lv_sub hl [0, 1] rfl)
  exact L2 _ 0 pY _ _ _ (Nat.zero_add _) (fun t ht => absurd ht (Nat.not_lt_zero t)) (hP.sub [0, 1, 2, 3, 4, 5, 6, 7, 8, 9, 10, 11, 12, 13, 14] rfl) (hD.sub [0, 1, 2, 3, 4, 5, 6, 7, 8, 9, 10, 11, 12, 13, 14] (by decide) rfl) hS (lv_sub hl [0, 1] rfl)

set_option maxHeartbeats 4000000 in
set_option maxRecDepth 100000 in
theorem c_build (l : Launch) (D : va_G) (cI : ClassId) (o ar ac av vx py li : Nat) (a : st_A) (u : st_C) (hr : st_rc a u)  : MetI l yX1_build wsX1_build rm_2 D [(cI, .int)] [.ref o] (st_wC cI o ar ac av vx py li a u) (fun (r : Int32) (x : st_A × st_C) => r = an_build a ∧ x.1 = up_build a ∧ st_rc x.1 x.2) (fun x => st_wC cI o ar ac av vx py li x.1 x.2) 0 0 := by
  obtain ⟨⟨K, R, C, S, np⟩, M0, P, X, Y⟩ := a
  obtain ⟨⟨su, sa, sb, sc⟩, ⟨sp, ta, tb, tc⟩, ⟨f, g, w⟩, ⟨f2, g2, w2⟩, ⟨pR, pC, pV⟩, ⟨vX, pY, lI⟩⟩ := u
  have hr : st_RC K R C S np M0 P X Y f g w f2 pR pC pV vX pY := hr
  obtain ⟨⟨⟨b1, b2, b3, b4, b5, b6, b7, b8⟩, hM⟩, hsup, hf2, hpe, hps, hX, hY⟩ := id hr
  refine rs_I (cc := cX1_build) (maxL := 2) (rty := .int) (by decide) rfl (Nat.le_of_ble_eq_true rfl) ?_
  intro p e s m args below meth c Q A ls hx hb hml hown hts hP hK hD hS hA hl ret
  have f13 := hts (.fieldLink RX1 13 "RowSparse" "rows" "I") (by decide +kernel)
  have f33 := hts (.fieldLink RX1 33 "RowSparse" "support" "LRowSparse$Support;") (by decide +kernel)
  have f37 := hts (.fieldLink RX1 37 "RowSparse" "spare" "LRowSparse$Support;") (by decide +kernel)
  have f50 := hts (.fieldLink RX1 50 "RowSparse" "pending" "I") (by decide +kernel)
  have f59 := hts (.fieldLink RX1 59 "RowSparse" "line" "[I") (by decide +kernel)
  have hin1 : ∀ w ∈ u_ws RX1 TX1 12, w ∈ wsX1_build := by decide +kernel
  have hl : lv_has ls 2 [(0, .ref o)] := hl
  have hP : va_P D vwCl [(o, .inr (1, [.int (nI K), .int (nI R), .int (nI C), .ref su, .ref sp, .ref ar, .ref ac, .ref av, .int (nI np), .ref vx, .ref py, .ref li])), (su, .inr (0, [.ref sa, .ref sb, .ref sc])), (sa, .inl (cI, S + 1, .inl f)), (sb, .inl (cI, K, .inl g)), (sc, .inl (cI, K, .inl w)), (sp, .inr (0, [.ref ta, .ref tb, .ref tc])), (ta, .inl (cI, S + 1, .inl f2)), (tb, .inl (cI, K, .inl g2)), (tc, .inl (cI, K, .inl w2)), (ar, .inl (cI, K, .inl pR)), (ac, .inl (cI, K, .inl pC)), (av, .inl (cI, K, .inl pV)), (vx, .inl (cI, S, .inl vX)), (py, .inl (cI, S, .inl pY)), (li, .inl (cI, S, .inl lI))] s.heap := hP
  have hD : va_D A [(o, .inr (1, [.int (nI K), .int (nI R), .int (nI C), .ref su, .ref sp, .ref ar, .ref ac, .ref av, .int (nI np), .ref vx, .ref py, .ref li])), (su, .inr (0, [.ref sa, .ref sb, .ref sc])), (sa, .inl (cI, S + 1, .inl f)), (sb, .inl (cI, K, .inl g)), (sc, .inl (cI, K, .inl w)), (sp, .inr (0, [.ref ta, .ref tb, .ref tc])), (ta, .inl (cI, S + 1, .inl f2)), (tb, .inl (cI, K, .inl g2)), (tc, .inl (cI, K, .inl w2)), (ar, .inl (cI, K, .inl pR)), (ac, .inl (cI, K, .inl pC)), (av, .inl (cI, K, .inl pV)), (vx, .inl (cI, S, .inl vX)), (py, .inl (cI, S, .inl pY)), (li, .inl (cI, S, .inl lI))] := hD
  refine lv_iconst (v := nI 0) hx hb dX1_build_0 (by decide +kernel) ?_
  refine lv_istore_n (lv' := [(1, .int (nI 0)), (0, .ref o)]) hx hb dX1_build_1 rfl hl (by decide) rfl (fun ls hl => ?_)
  have L2 : ∀ (k2 : Nat) (i : Nat) (f3 : Nat → Int32) (g3 : Nat → Int32) (w3 : Nat → Int32) (l1 : Nat → Int32) (H : Heap) (locs : List Loc) (ls : Array Slot), i + k2 = R → ms_Sup K S i (ms_pl R C M0 P) f3 g3 w3 → va_P D vwCl [(o, .inr (1, [.int (nI K), .int (nI R), .int (nI C), .ref su, .ref sp, .ref ar, .ref ac, .ref av, .int (nI np), .ref vx, .ref py, .ref li])), (su, .inr (0, [.ref sa, .ref sb, .ref sc])), (sa, .inl (cI, S + 1, .inl f)), (sb, .inl (cI, K, .inl g)), (sc, .inl (cI, K, .inl w)), (sp, .inr (0, [.ref ta, .ref tb, .ref tc])), (ta, .inl (cI, S + 1, .inl f3)), (tb, .inl (cI, K, .inl g3)), (tc, .inl (cI, K, .inl w3)), (ar, .inl (cI, K, .inl pR)), (ac, .inl (cI, K, .inl pC)), (av, .inl (cI, K, .inl pV)), (vx, .inl (cI, S, .inl vX)), (py, .inl (cI, S, .inl pY)), (li, .inl (cI, S, .inl l1))] H → va_D A [(o, .inr (1, [.int (nI K), .int (nI R), .int (nI C), .ref su, .ref sp, .ref ar, .ref ac, .ref av, .int (nI np), .ref vx, .ref py, .ref li])), (su, .inr (0, [.ref sa, .ref sb, .ref sc])), (sa, .inl (cI, S + 1, .inl f)), (sb, .inl (cI, K, .inl g)), (sc, .inl (cI, K, .inl w)), (sp, .inr (0, [.ref ta, .ref tb, .ref tc])), (ta, .inl (cI, S + 1, .inl f3)), (tb, .inl (cI, K, .inl g3)), (tc, .inl (cI, K, .inl w3)), (ar, .inl (cI, K, .inl pR)), (ac, .inl (cI, K, .inl pC)), (av, .inl (cI, K, .inl pV)), (vx, .inl (cI, S, .inl vX)), (py, .inl (cI, S, .inl pY)), (li, .inl (cI, S, .inl l1))] → va_S A s.heap H locs → lv_has ls 2 [(1, .int (nI i)), (0, .ref o)] → W p l e rm_2 s m args below meth c H locs 0 0 Q (F0 m 2 ls []) := by
    intro k2
    induction k2 with
    | zero =>
      intro i f3 g3 w3 l1 H locs ls hk2 hs hP hD hS hl
      have hs : ms_Sup K S R (ms_pl R C M0 P) f3 g3 w3 := by rw [show i = R by omega] at hs; exact hs
      refine lv_iload_n hx hb dX1_build_2 rfl (lv_at hl 0 rfl) ?_
      refine lv_aload_n hx hb dX1_build_3 rfl (lv_at hl 1 rfl) ?_
      refine va_get (D := D) (ci := 1) (v := .int (nI R)) (C := RX1) (T := TX1) (N := 12) hx hb hts hin1 hown hK hP 0 rfl rfl 1 (by decide) f13 (fun _ h9 => h9) rfl dX1_build_4 ?_
      refine rv_ge_t (tgt := 63) hx hb dX1_build_7 (by decide) (by omega) (by omega) ?_
      refine lv_aload_n hx hb dX1_build_63 rfl (lv_at hl 1 rfl) ?_
      refine rs_cV (As := []) (rest := []) (WR := [(su, .inr (0, [.ref sa, .ref sb, .ref sc])), (sa, .inl (cI, S + 1, .inl f)), (sb, .inl (cI, K, .inl g)), (sc, .inl (cI, K, .inl w)), (sp, .inr (0, [.ref ta, .ref tb, .ref tc])), (ta, .inl (cI, S + 1, .inl f3)), (tb, .inl (cI, K, .inl g3)), (tc, .inl (cI, K, .inl w3)), (ar, .inl (cI, K, .inl pR)), (ac, .inl (cI, K, .inl pC)), (av, .inl (cI, K, .inl pV)), (vx, .inl (cI, S, .inl vX)), (py, .inl (cI, S, .inl pY)), (li, .inl (cI, S, .inl l1))]) ⟨hx, hb, hml, hown, hts⟩ hl.1 (c_swapSupports l D cI o K R C su sp ar ac av vx py li np) (cwV 0 hts gX1_build_X1_swapSupports rfl rfl rfl (by decide +kernel) ⟨Nat.le_of_ble_eq_true rfl, Nat.le_of_ble_eq_true rfl⟩) hK hP hD hS hA [0] [1, 2, 3, 4, 5, 6, 7, 8, 9, 10, 11, 12, 13, 14] rfl rfl (by decide) (by decide) (by decide) rfl rfl rfl rfl (Nat.le_of_ble_eq_true rfl) dX1_build_64 (Nat.le_of_ble_eq_true rfl) (Nat.le_of_ble_eq_true rfl) (fun u H locs hu hP hD hS => ?_)
      have hP : va_P D vwCl [(su, .inr (0, [.ref sa, .ref sb, .ref sc])), (sa, .inl (cI, S + 1, .inl f)), (sb, .inl (cI, K, .inl g)), (sc, .inl (cI, K, .inl w)), (sp, .inr (0, [.ref ta, .ref tb, .ref tc])), (ta, .inl (cI, S + 1, .inl f3)), (tb, .inl (cI, K, .inl g3)), (tc, .inl (cI, K, .inl w3)), (ar, .inl (cI, K, .inl pR)), (ac, .inl (cI, K, .inl pC)), (av, .inl (cI, K, .inl pV)), (vx, .inl (cI, S, .inl vX)), (py, .inl (cI, S, .inl pY)), (li, .inl (cI, S, .inl l1)), (o, .inr (1, [.int (nI K), .int (nI R), .int (nI C), .ref sp, .ref su, .ref ar, .ref ac, .ref av, .int (nI np), .ref vx, .ref py, .ref li]))] H := hP
      have hD : va_D A [(su, .inr (0, [.ref sa, .ref sb, .ref sc])), (sa, .inl (cI, S + 1, .inl f)), (sb, .inl (cI, K, .inl g)), (sc, .inl (cI, K, .inl w)), (sp, .inr (0, [.ref ta, .ref tb, .ref tc])), (ta, .inl (cI, S + 1, .inl f3)), (tb, .inl (cI, K, .inl g3)), (tc, .inl (cI, K, .inl w3)), (ar, .inl (cI, K, .inl pR)), (ac, .inl (cI, K, .inl pC)), (av, .inl (cI, K, .inl pV)), (vx, .inl (cI, S, .inl vX)), (py, .inl (cI, S, .inl pY)), (li, .inl (cI, S, .inl l1)), (o, .inr (1, [.int (nI K), .int (nI R), .int (nI C), .ref sp, .ref su, .ref ar, .ref ac, .ref av, .int (nI np), .ref vx, .ref py, .ref li]))] := hD
      refine lv_aload_n hx hb dX1_build_67 rfl (lv_at hl 1 rfl) ?_
      refine lv_iconst (v := nI 0) hx hb dX1_build_68 (by decide +kernel) ?_
      refine va_put (D := D) (ci := 1) (v := .int (nI 0)) (ty := .int) (C := RX1) (T := TX1) (N := 12) hx hb hts hin1 tyX1 tyX1_ok nmX1 hown hK hP hD hS 14 rfl rfl 8 (by decide) f50 (fun _ h9 => h9) rfl (by decide +kernel) rfl rfl (Nat.le_of_ble_eq_true rfl) dX1_build_69 (fun H locs hP hD hS => ?_)
      have hP : va_P D vwCl [(su, .inr (0, [.ref sa, .ref sb, .ref sc])), (sa, .inl (cI, S + 1, .inl f)), (sb, .inl (cI, K, .inl g)), (sc, .inl (cI, K, .inl w)), (sp, .inr (0, [.ref ta, .ref tb, .ref tc])), (ta, .inl (cI, S + 1, .inl f3)), (tb, .inl (cI, K, .inl g3)), (tc, .inl (cI, K, .inl w3)), (ar, .inl (cI, K, .inl pR)), (ac, .inl (cI, K, .inl pC)), (av, .inl (cI, K, .inl pV)), (vx, .inl (cI, S, .inl vX)), (py, .inl (cI, S, .inl pY)), (li, .inl (cI, S, .inl l1)), (o, .inr (1, [.int (nI K), .int (nI R), .int (nI C), .ref sp, .ref su, .ref ar, .ref ac, .ref av, .int (nI 0), .ref vx, .ref py, .ref li]))] H := hP
      have hD : va_D A [(su, .inr (0, [.ref sa, .ref sb, .ref sc])), (sa, .inl (cI, S + 1, .inl f)), (sb, .inl (cI, K, .inl g)), (sc, .inl (cI, K, .inl w)), (sp, .inr (0, [.ref ta, .ref tb, .ref tc])), (ta, .inl (cI, S + 1, .inl f3)), (tb, .inl (cI, K, .inl g3)), (tc, .inl (cI, K, .inl w3)), (ar, .inl (cI, K, .inl pR)), (ac, .inl (cI, K, .inl pC)), (av, .inl (cI, K, .inl pV)), (vx, .inl (cI, S, .inl vX)), (py, .inl (cI, S, .inl pY)), (li, .inl (cI, S, .inl l1)), (o, .inr (1, [.int (nI K), .int (nI R), .int (nI C), .ref sp, .ref su, .ref ar, .ref ac, .ref av, .int (nI 0), .ref vx, .ref py, .ref li]))] := hD
      refine lv_aload_n hx hb dX1_build_72 rfl (lv_at hl 1 rfl) ?_
      refine va_get (D := D) (ci := 1) (v := .ref sp) (C := RX1) (T := TX1) (N := 12) hx hb hts hin1 hown hK hP 14 rfl rfl 3 (by decide) f33 (fun _ h9 => h9) rfl dX1_build_73 ?_
      refine lv_aload_n hx hb dX1_build_76 rfl (lv_at hl 1 rfl) ?_
      refine va_get (D := D) (ci := 1) (v := .int (nI R)) (C := RX1) (T := TX1) (N := 12) hx hb hts hin1 hown hK hP 14 rfl rfl 1 (by decide) f13 (fun _ h9 => h9) rfl dX1_build_77 ?_
      refine rs_cR (As := [.int (nI R)]) (rest := []) ⟨hx, hb, hml, hown, hts⟩ hl.1 (c_placesAhead l D cI sp ta tb tc (S + 1) R f3 (by omega) (by omega)) (cwV 1 hts gX1_build_X0_placesAhead rfl rfl rfl (by decide +kernel) ⟨Nat.le_of_ble_eq_true rfl, Nat.le_of_ble_eq_true rfl⟩) hK hP [4, 5] rfl rfl rfl rfl rfl (Nat.le_of_ble_eq_true rfl) dX1_build_80 (Nat.le_of_ble_eq_true rfl) (Nat.le_of_ble_eq_true rfl) (fun r hv => ?_)
      subst hv
      refine rv_top (hs.1 R (Nat.le_refl _)) ?_
      exact ret _ _ _ _ _ (((K, R, C, S, 0), (ms_pl R C M0 P), (fun _ _ => 0), X, Y), ((sp, ta, tb, tc), (su, sa, sb, sc), (f3, g3, w3), (f, g, w), (pR, pC, pV), (vX, pY, l1))) dX1_build_83 (rfl) (⟨(an_build_t hs.2.1).1, (an_build_t hs.2.1).2.symm, st_build hr hs⟩) (hP.sub [14, 4, 5, 6, 7, 0, 1, 2, 3, 8, 9, 10, 11, 12, 13] rfl) (hD.sub [14, 4, 5, 6, 7, 0, 1, 2, 3, 8, 9, 10, 11, 12, 13] (by decide) rfl) hS
    | succ k2 ih2 =>
      intro i f3 g3 w3 l1 H locs ls hk2 hs hP hD hS hl
      have hi0 : i < R := by omega
      obtain ⟨e0, e1, h01, h1k, e2⟩ := ms_Sq hsup hi0
      refine lv_iload_n hx hb dX1_build_2 rfl (lv_at hl 0 rfl) ?_
      refine lv_aload_n hx hb dX1_build_3 rfl (lv_at hl 1 rfl) ?_
      refine va_get (D := D) (ci := 1) (v := .int (nI R)) (C := RX1) (T := TX1) (N := 12) hx hb hts hin1 hown hK hP 0 rfl rfl 1 (by decide) f13 (fun _ h9 => h9) rfl dX1_build_4 ?_
      refine rv_ge_f (tgt := 63) hx hb dX1_build_7 (by decide) (by omega) (by omega) ?_
      refine lv_aload_n hx hb dX1_build_10 rfl (lv_at hl 1 rfl) ?_
      refine va_get (D := D) (ci := 1) (v := .ref li) (C := RX1) (T := TX1) (N := 12) hx hb hts hin1 hown hK hP 0 rfl rfl 11 (by decide) f59 (fun _ h9 => h9) rfl dX1_build_11 ?_
      refine lv_iconst (v := nI 0) hx hb dX1_build_14 (by decide +kernel) ?_
      refine rs_cVS (As := [.ref li, .int (nI 0)]) (rest := []) (WR := [(o, .inr (1, [.int (nI K), .int (nI R), .int (nI C), .ref su, .ref sp, .ref ar, .ref ac, .ref av, .int (nI np), .ref vx, .ref py, .ref li])), (su, .inr (0, [.ref sa, .ref sb, .ref sc])), (sa, .inl (cI, S + 1, .inl f)), (sb, .inl (cI, K, .inl g)), (sc, .inl (cI, K, .inl w)), (sp, .inr (0, [.ref ta, .ref tb, .ref tc])), (ta, .inl (cI, S + 1, .inl f3)), (tb, .inl (cI, K, .inl g3)), (tc, .inl (cI, K, .inl w3)), (ar, .inl (cI, K, .inl pR)), (ac, .inl (cI, K, .inl pC)), (av, .inl (cI, K, .inl pV)), (vx, .inl (cI, S, .inl vX)), (py, .inl (cI, S, .inl pY))]) ⟨hx, hb, hml, hown, hts⟩ hl.1 (c_fill l D cI li S l1 (nI 0) (by omega)) (va_cwS 2 hts gX1_build_J7_fill_53178 rfl rfl rfl (by decide +kernel) ⟨Nat.le_of_ble_eq_true rfl, Nat.le_of_ble_eq_true rfl⟩) hK hP hD hS hA [14] [0, 1, 2, 3, 4, 5, 6, 7, 8, 9, 10, 11, 12, 13] rfl rfl (by decide) (by decide) (by decide) rfl rfl (Nat.le_of_ble_eq_true rfl) dX1_build_15 (Nat.le_of_ble_eq_true rfl) (Nat.le_of_ble_eq_true rfl) (fun u H locs hu hP hD hS => ?_)
      obtain ⟨u1, e9⟩ : ∃ z, z = u := ⟨_, rfl⟩
      subst e9
      have hu1 := hu
      have hP : va_P D vwCl [(o, .inr (1, [.int (nI K), .int (nI R), .int (nI C), .ref su, .ref sp, .ref ar, .ref ac, .ref av, .int (nI np), .ref vx, .ref py, .ref li])), (su, .inr (0, [.ref sa, .ref sb, .ref sc])), (sa, .inl (cI, S + 1, .inl f)), (sb, .inl (cI, K, .inl g)), (sc, .inl (cI, K, .inl w)), (sp, .inr (0, [.ref ta, .ref tb, .ref tc])), (ta, .inl (cI, S + 1, .inl f3)), (tb, .inl (cI, K, .inl g3)), (tc, .inl (cI, K, .inl w3)), (ar, .inl (cI, K, .inl pR)), (ac, .inl (cI, K, .inl pC)), (av, .inl (cI, K, .inl pV)), (vx, .inl (cI, S, .inl vX)), (py, .inl (cI, S, .inl pY)), (li, .inl (cI, S, .inl u1))] H := hP
      have hD : va_D A [(o, .inr (1, [.int (nI K), .int (nI R), .int (nI C), .ref su, .ref sp, .ref ar, .ref ac, .ref av, .int (nI np), .ref vx, .ref py, .ref li])), (su, .inr (0, [.ref sa, .ref sb, .ref sc])), (sa, .inl (cI, S + 1, .inl f)), (sb, .inl (cI, K, .inl g)), (sc, .inl (cI, K, .inl w)), (sp, .inr (0, [.ref ta, .ref tb, .ref tc])), (ta, .inl (cI, S + 1, .inl f3)), (tb, .inl (cI, K, .inl g3)), (tc, .inl (cI, K, .inl w3)), (ar, .inl (cI, K, .inl pR)), (ac, .inl (cI, K, .inl pC)), (av, .inl (cI, K, .inl pV)), (vx, .inl (cI, S, .inl vX)), (py, .inl (cI, S, .inl pY)), (li, .inl (cI, S, .inl u1))] := hD
      refine lv_aload_n hx hb dX1_build_18 rfl (lv_at hl 1 rfl) ?_
      refine va_get (D := D) (ci := 1) (v := .ref su) (C := RX1) (T := TX1) (N := 12) hx hb hts hin1 hown hK hP 0 rfl rfl 3 (by decide) f33 (fun _ h9 => h9) rfl dX1_build_19 ?_
      refine lv_aload_n hx hb dX1_build_22 rfl (lv_at hl 1 rfl) ?_
      refine va_get (D := D) (ci := 1) (v := .ref li) (C := RX1) (T := TX1) (N := 12) hx hb hts hin1 hown hK hP 0 rfl rfl 11 (by decide) f59 (fun _ h9 => h9) rfl dX1_build_23 ?_
      refine lv_iload_n hx hb dX1_build_26 rfl (lv_at hl 0 rfl) ?_
      refine lv_iconst (v := nI 1) hx hb dX1_build_27 (by decide +kernel) ?_
      refine rs_cV (As := [.ref li, .int (nI i), .int (nI 1)]) (rest := []) (WR := [(o, .inr (1, [.int (nI K), .int (nI R), .int (nI C), .ref su, .ref sp, .ref ar, .ref ac, .ref av, .int (nI np), .ref vx, .ref py, .ref li])), (sp, .inr (0, [.ref ta, .ref tb, .ref tc])), (ta, .inl (cI, S + 1, .inl f3)), (tb, .inl (cI, K, .inl g3)), (tc, .inl (cI, K, .inl w3)), (ar, .inl (cI, K, .inl pR)), (ac, .inl (cI, K, .inl pC)), (av, .inl (cI, K, .inl pV)), (vx, .inl (cI, S, .inl vX)), (py, .inl (cI, S, .inl pY))]) ⟨hx, hb, hml, hown, hts⟩ hl.1 (c_addRowTo l D cI su sa sb sc (S + 1) K f g w li S u1 (nI 1) (ms_J g (ms_sc M0 S i)) i (ms_sc M0 S i) (ms_sc M0 S (i + 1)) (by omega) (by omega) (by omega) e0 e1 h01 h1k (by omega) (fun t ht => ⟨(ms_Jt hsup (by omega) hi0 (show t < ms_rc (M0 i) S by omega)).2.2.1, (ms_Jt hsup (by omega) hi0 (show t < ms_rc (M0 i) S by omega)).1⟩)) (cwV 3 hts gX1_build_X0_addRowTo rfl rfl rfl (by decide +kernel) ⟨Nat.le_of_ble_eq_true rfl, Nat.le_of_ble_eq_true rfl⟩) hK hP hD hS hA [1, 2, 3, 4, 14] [0, 5, 6, 7, 8, 9, 10, 11, 12, 13] rfl rfl (by decide) (by decide) (by decide) rfl rfl rfl rfl (Nat.le_of_ble_eq_true rfl) dX1_build_28 (Nat.le_of_ble_eq_true rfl) (Nat.le_of_ble_eq_true rfl) (fun u H locs hu hP hD hS => ?_)
      obtain ⟨u2, e9⟩ : ∃ z, z = u := ⟨_, rfl⟩
      subst e9
      have hP : va_P D vwCl [(o, .inr (1, [.int (nI K), .int (nI R), .int (nI C), .ref su, .ref sp, .ref ar, .ref ac, .ref av, .int (nI np), .ref vx, .ref py, .ref li])), (sp, .inr (0, [.ref ta, .ref tb, .ref tc])), (ta, .inl (cI, S + 1, .inl f3)), (tb, .inl (cI, K, .inl g3)), (tc, .inl (cI, K, .inl w3)), (ar, .inl (cI, K, .inl pR)), (ac, .inl (cI, K, .inl pC)), (av, .inl (cI, K, .inl pV)), (vx, .inl (cI, S, .inl vX)), (py, .inl (cI, S, .inl pY)), (su, .inr (0, [.ref sa, .ref sb, .ref sc])), (sa, .inl (cI, S + 1, .inl f)), (sb, .inl (cI, K, .inl g)), (sc, .inl (cI, K, .inl w)), (li, .inl (cI, S, .inl u2))] H := hP
      have hD : va_D A [(o, .inr (1, [.int (nI K), .int (nI R), .int (nI C), .ref su, .ref sp, .ref ar, .ref ac, .ref av, .int (nI np), .ref vx, .ref py, .ref li])), (sp, .inr (0, [.ref ta, .ref tb, .ref tc])), (ta, .inl (cI, S + 1, .inl f3)), (tb, .inl (cI, K, .inl g3)), (tc, .inl (cI, K, .inl w3)), (ar, .inl (cI, K, .inl pR)), (ac, .inl (cI, K, .inl pC)), (av, .inl (cI, K, .inl pV)), (vx, .inl (cI, S, .inl vX)), (py, .inl (cI, S, .inl pY)), (su, .inr (0, [.ref sa, .ref sb, .ref sc])), (sa, .inl (cI, S + 1, .inl f)), (sb, .inl (cI, K, .inl g)), (sc, .inl (cI, K, .inl w)), (li, .inl (cI, S, .inl u2))] := hD
      have hu2 : ∀ j, j < S → u2 j = u1 j + nI 1 * M0 i j := ms_addrow hsup (by omega) hi0 hu
      refine lv_aload_n hx hb dX1_build_31 rfl (lv_at hl 1 rfl) ?_
      refine lv_aload_n hx hb dX1_build_32 rfl (lv_at hl 1 rfl) ?_
      refine va_get (D := D) (ci := 1) (v := .ref li) (C := RX1) (T := TX1) (N := 12) hx hb hts hin1 hown hK hP 0 rfl rfl 11 (by decide) f59 (fun _ h9 => h9) rfl dX1_build_33 ?_
      refine lv_iload_n hx hb dX1_build_36 rfl (lv_at hl 0 rfl) ?_
      refine rs_cV (As := [.ref li, .int (nI i)]) (rest := []) (WR := [(sp, .inr (0, [.ref ta, .ref tb, .ref tc])), (ta, .inl (cI, S + 1, .inl f3)), (tb, .inl (cI, K, .inl g3)), (tc, .inl (cI, K, .inl w3)), (vx, .inl (cI, S, .inl vX)), (py, .inl (cI, S, .inl pY)), (su, .inr (0, [.ref sa, .ref sb, .ref sc])), (sa, .inl (cI, S + 1, .inl f)), (sb, .inl (cI, K, .inl g)), (sc, .inl (cI, K, .inl w))]) ⟨hx, hb, hml, hown, hts⟩ hl.1 (c_addPendingTo l D cI o K R C su sp ar ac av vx py li np li S i pR pC pV u2 (fun p => (pC p).toNatClampNeg) (by omega) b8 (by omega) (fun p hp => st_pcol (by omega) hpe hp)) (cwV 2 hts gX1_build_X1_addPendingTo rfl rfl rfl (by decide +kernel) ⟨Nat.le_of_ble_eq_true rfl, Nat.le_of_ble_eq_true rfl⟩) hK hP hD hS hA [0, 5, 6, 7, 14] [1, 2, 3, 4, 8, 9, 10, 11, 12, 13] rfl rfl (by decide) (by decide) (by decide) rfl rfl rfl rfl (Nat.le_of_ble_eq_true rfl) dX1_build_37 (Nat.le_of_ble_eq_true rfl) (Nat.le_of_ble_eq_true rfl) (fun u H locs hu hP hD hS => ?_)
      obtain ⟨u3, e9⟩ : ∃ z, z = u := ⟨_, rfl⟩
      subst e9
      have hP : va_P D vwCl [(sp, .inr (0, [.ref ta, .ref tb, .ref tc])), (ta, .inl (cI, S + 1, .inl f3)), (tb, .inl (cI, K, .inl g3)), (tc, .inl (cI, K, .inl w3)), (vx, .inl (cI, S, .inl vX)), (py, .inl (cI, S, .inl pY)), (su, .inr (0, [.ref sa, .ref sb, .ref sc])), (sa, .inl (cI, S + 1, .inl f)), (sb, .inl (cI, K, .inl g)), (sc, .inl (cI, K, .inl w)), (o, .inr (1, [.int (nI K), .int (nI R), .int (nI C), .ref su, .ref sp, .ref ar, .ref ac, .ref av, .int (nI np), .ref vx, .ref py, .ref li])), (ar, .inl (cI, K, .inl pR)), (ac, .inl (cI, K, .inl pC)), (av, .inl (cI, K, .inl pV)), (li, .inl (cI, S, .inl u3))] H := hP
      have hD : va_D A [(sp, .inr (0, [.ref ta, .ref tb, .ref tc])), (ta, .inl (cI, S + 1, .inl f3)), (tb, .inl (cI, K, .inl g3)), (tc, .inl (cI, K, .inl w3)), (vx, .inl (cI, S, .inl vX)), (py, .inl (cI, S, .inl pY)), (su, .inr (0, [.ref sa, .ref sb, .ref sc])), (sa, .inl (cI, S + 1, .inl f)), (sb, .inl (cI, K, .inl g)), (sc, .inl (cI, K, .inl w)), (o, .inr (1, [.int (nI K), .int (nI R), .int (nI C), .ref su, .ref sp, .ref ar, .ref ac, .ref av, .int (nI np), .ref vx, .ref py, .ref li])), (ar, .inl (cI, K, .inl pR)), (ac, .inl (cI, K, .inl pC)), (av, .inl (cI, K, .inl pV)), (li, .inl (cI, S, .inl u3))] := hD
      have hu3 : ∀ j, j < S → u3 j = ms_pl R C M0 P i j := st_line hr hi0 hu1 hu2 hu
      refine lv_aload_n hx hb dX1_build_40 rfl (lv_at hl 1 rfl) ?_
      refine va_get (D := D) (ci := 1) (v := .ref sp) (C := RX1) (T := TX1) (N := 12) hx hb hts hin1 hown hK hP 10 rfl rfl 4 (by decide) f37 (fun _ h9 => h9) rfl dX1_build_41 ?_
      refine lv_iload_n hx hb dX1_build_44 rfl (lv_at hl 0 rfl) ?_
      refine lv_aload_n hx hb dX1_build_45 rfl (lv_at hl 1 rfl) ?_
      refine va_get (D := D) (ci := 1) (v := .ref li) (C := RX1) (T := TX1) (N := 12) hx hb hts hin1 hown hK hP 10 rfl rfl 11 (by decide) f59 (fun _ h9 => h9) rfl dX1_build_46 ?_
      refine rs_cI (As := [.int (nI i), .ref li]) (rest := []) (WR := [(vx, .inl (cI, S, .inl vX)), (py, .inl (cI, S, .inl pY)), (su, .inr (0, [.ref sa, .ref sb, .ref sc])), (sa, .inl (cI, S + 1, .inl f)), (sb, .inl (cI, K, .inl g)), (sc, .inl (cI, K, .inl w)), (o, .inr (1, [.int (nI K), .int (nI R), .int (nI C), .ref su, .ref sp, .ref ar, .ref ac, .ref av, .int (nI np), .ref vx, .ref py, .ref li])), (ar, .inl (cI, K, .inl pR)), (ac, .inl (cI, K, .inl pC)), (av, .inl (cI, K, .inl pV))]) ⟨hx, hb, hml, hown, hts⟩ hl.1 (c_putRow l D cI sp ta tb tc (S + 1) K f3 g3 w3 li S u3 i (ms_sc (ms_pl R C M0 P) S i) (by omega) (by omega) (by omega) (by omega) (hs.1 i (Nat.le_refl _)) hs.2.1) (cwV 2 hts gX1_build_X0_putRow rfl rfl rfl (by decide +kernel) ⟨Nat.le_of_ble_eq_true rfl, Nat.le_of_ble_eq_true rfl⟩) hK hP hD hS hA [0, 1, 2, 3, 14] [4, 5, 6, 7, 8, 9, 10, 11, 12, 13] rfl rfl (by decide) (by decide) (by decide) rfl rfl rfl rfl (Nat.le_of_ble_eq_true rfl) dX1_build_49 (Nat.le_of_ble_eq_true rfl) (Nat.le_of_ble_eq_true rfl) (fun r u H locs hu hP hD hS => ?_)
      obtain ⟨f4, g4, w4⟩ := u
      have hP : va_P D vwCl [(vx, .inl (cI, S, .inl vX)), (py, .inl (cI, S, .inl pY)), (su, .inr (0, [.ref sa, .ref sb, .ref sc])), (sa, .inl (cI, S + 1, .inl f)), (sb, .inl (cI, K, .inl g)), (sc, .inl (cI, K, .inl w)), (o, .inr (1, [.int (nI K), .int (nI R), .int (nI C), .ref su, .ref sp, .ref ar, .ref ac, .ref av, .int (nI np), .ref vx, .ref py, .ref li])), (ar, .inl (cI, K, .inl pR)), (ac, .inl (cI, K, .inl pC)), (av, .inl (cI, K, .inl pV)), (sp, .inr (0, [.ref ta, .ref tb, .ref tc])), (ta, .inl (cI, S + 1, .inl f4)), (tb, .inl (cI, K, .inl g4)), (tc, .inl (cI, K, .inl w4)), (li, .inl (cI, S, .inl u3))] H := hP
      have hD : va_D A [(vx, .inl (cI, S, .inl vX)), (py, .inl (cI, S, .inl pY)), (su, .inr (0, [.ref sa, .ref sb, .ref sc])), (sa, .inl (cI, S + 1, .inl f)), (sb, .inl (cI, K, .inl g)), (sc, .inl (cI, K, .inl w)), (o, .inr (1, [.int (nI K), .int (nI R), .int (nI C), .ref su, .ref sp, .ref ar, .ref ac, .ref av, .int (nI np), .ref vx, .ref py, .ref li])), (ar, .inl (cI, K, .inl pR)), (ac, .inl (cI, K, .inl pC)), (av, .inl (cI, K, .inl pV)), (sp, .inr (0, [.ref ta, .ref tb, .ref tc])), (ta, .inl (cI, S + 1, .inl f4)), (tb, .inl (cI, K, .inl g4)), (tc, .inl (cI, K, .inl w4)), (li, .inl (cI, S, .inl u3))] := hD
      rcases hu with ⟨k1, rfl, k3, k4, k5⟩ | ⟨k1, rfl, k3⟩
      · refine rv_ifne_t (tgt := 57) hx hb dX1_build_52 (by decide) (by decide) ?_
        refine lv_iinc (v := nI (i + 1)) (lv' := [(1, .int (nI (i + 1))), (0, .ref o)]) hx hb dX1_build_57 hl (k := 0) rfl (rv_inc _) (by decide) rfl (fun ls hl => ?_)
        refine lv_goto (tgt := 2) hx hb dX1_build_60 (by decide) ?_
        exact ih2 (i + 1) f4 g4 w4 u3 _ _ _ (by omega) (ms_supstep hs hu3 k1 k3 k4 k5) (hP.sub [6, 2, 3, 4, 5, 10, 11, 12, 13, 7, 8, 9, 0, 1, 14] rfl) (hD.sub [6, 2, 3, 4, 5, 10, 11, 12, 13, 7, 8, 9, 0, 1, 14] (by decide) rfl) hS (lv_sub hl [0, 1] rfl)
      · refine rv_ifne_f (tgt := 57) hx hb dX1_build_52 (by decide) rfl ?_
        refine lv_iconst (v := (-1)) hx hb dX1_build_55 (by decide +kernel) ?_
        exact ret _ _ _ _ _ (((K, R, C, S, np), M0, P, X, Y), ((su, sa, sb, sc), (sp, ta, tb, tc), (f, g, w), (f4, g4, w4), (pR, pC, pV), (vX, pY, u3))) dX1_build_56 (rfl) (⟨(an_build_f (ms_sc_over hi0 hu3 k1)).1, (an_build_f (ms_sc_over hi0 hu3 k1)).2.symm, st_spare hr (by have k3 : f4 = f3 := k3; rw [k3]; exact st_sup0 hs)⟩) (hP.sub [6, 2, 3, 4, 5, 10, 11, 12, 13, 7, 8, 9, 0, 1, 14] rfl) (hD.sub [6, 2, 3, 4, 5, 10, 11, 12, 13, 7, 8, 9, 0, 1, 14] (by decide) rfl) hS
  exact L2 _ 0 f2 g2 w2 lI _ _ _ (Nat.zero_add _) (ms_sup0 hf2) (hP.sub [0, 1, 2, 3, 4, 5, 6, 7, 8, 9, 10, 11, 12, 13, 14] rfl) (hD.sub [0, 1, 2, 3, 4, 5, 6, 7, 8, 9, 10, 11, 12, 13, 14] (by decide) rfl) hS (lv_sub hl [0, 1] rfl)

set_option maxHeartbeats 4000000 in
set_option maxRecDepth 100000 in
theorem c_square (l : Launch) (D : va_G) (cI : ClassId) (o ar ac av vx py li : Nat) (a : st_A) (u : st_C) (hr : st_rc a u)  : MetI l yX1_square wsX1_square rm_2 D [(cI, .int)] [.ref o] (st_wC cI o ar ac av vx py li a u) (fun (r : Int32) (x : st_A × st_C) => r = an_square a ∧ x.1 = up_square a ∧ st_rc x.1 x.2) (fun x => st_wC cI o ar ac av vx py li x.1 x.2) 0 0 := by
  obtain ⟨⟨K, R, C, S, np⟩, M0, P, X, Y⟩ := a
  obtain ⟨⟨su, sa, sb, sc⟩, ⟨sp, ta, tb, tc⟩, ⟨f, g, w⟩, ⟨f2, g2, w2⟩, ⟨pR, pC, pV⟩, ⟨vX, pY, lI⟩⟩ := u
  have hr : st_RC K R C S np M0 P X Y f g w f2 pR pC pV vX pY := hr
  obtain ⟨⟨⟨b1, b2, b3, b4, b5, b6, b7, b8⟩, hM⟩, hsup, hf2, hpe, hps, hX, hY⟩ := id hr
  refine rs_I (cc := cX1_square) (maxL := 2) (rty := .int) (by decide) rfl (Nat.le_of_ble_eq_true rfl) ?_
  intro p e s m args below meth c Q A ls hx hb hml hown hts hP hK hD hS hA hl ret
  have f13 := hts (.fieldLink RX1 13 "RowSparse" "rows" "I") (by decide +kernel)
  have f17 := hts (.fieldLink RX1 17 "RowSparse" "cols" "I") (by decide +kernel)
  have f33 := hts (.fieldLink RX1 33 "RowSparse" "support" "LRowSparse$Support;") (by decide +kernel)
  have f37 := hts (.fieldLink RX1 37 "RowSparse" "spare" "LRowSparse$Support;") (by decide +kernel)
  have f59 := hts (.fieldLink RX1 59 "RowSparse" "line" "[I") (by decide +kernel)
  have hin1 : ∀ w ∈ u_ws RX1 TX1 12, w ∈ wsX1_square := by decide +kernel
  have hl : lv_has ls 2 [(0, .ref o)] := hl
  have hP : va_P D vwCl [(o, .inr (1, [.int (nI K), .int (nI R), .int (nI C), .ref su, .ref sp, .ref ar, .ref ac, .ref av, .int (nI np), .ref vx, .ref py, .ref li])), (su, .inr (0, [.ref sa, .ref sb, .ref sc])), (sa, .inl (cI, S + 1, .inl f)), (sb, .inl (cI, K, .inl g)), (sc, .inl (cI, K, .inl w)), (sp, .inr (0, [.ref ta, .ref tb, .ref tc])), (ta, .inl (cI, S + 1, .inl f2)), (tb, .inl (cI, K, .inl g2)), (tc, .inl (cI, K, .inl w2)), (ar, .inl (cI, K, .inl pR)), (ac, .inl (cI, K, .inl pC)), (av, .inl (cI, K, .inl pV)), (vx, .inl (cI, S, .inl vX)), (py, .inl (cI, S, .inl pY)), (li, .inl (cI, S, .inl lI))] s.heap := hP
  have hD : va_D A [(o, .inr (1, [.int (nI K), .int (nI R), .int (nI C), .ref su, .ref sp, .ref ar, .ref ac, .ref av, .int (nI np), .ref vx, .ref py, .ref li])), (su, .inr (0, [.ref sa, .ref sb, .ref sc])), (sa, .inl (cI, S + 1, .inl f)), (sb, .inl (cI, K, .inl g)), (sc, .inl (cI, K, .inl w)), (sp, .inr (0, [.ref ta, .ref tb, .ref tc])), (ta, .inl (cI, S + 1, .inl f2)), (tb, .inl (cI, K, .inl g2)), (tc, .inl (cI, K, .inl w2)), (ar, .inl (cI, K, .inl pR)), (ac, .inl (cI, K, .inl pC)), (av, .inl (cI, K, .inl pV)), (vx, .inl (cI, S, .inl vX)), (py, .inl (cI, S, .inl pY)), (li, .inl (cI, S, .inl lI))] := hD
  refine lv_aload_n hx hb dX1_square_0 rfl (lv_at hl 0 rfl) ?_
  refine va_get (D := D) (ci := 1) (v := .int (nI R)) (C := RX1) (T := TX1) (N := 12) hx hb hts hin1 hown hK hP 0 rfl rfl 1 (by decide) f13 (fun _ h9 => h9) rfl dX1_square_1 ?_
  refine lv_aload_n hx hb dX1_square_4 rfl (lv_at hl 0 rfl) ?_
  refine va_get (D := D) (ci := 1) (v := .int (nI C)) (C := RX1) (T := TX1) (N := 12) hx hb hts hin1 hown hK hP 0 rfl rfl 2 (by decide) f17 (fun _ h9 => h9) rfl dX1_square_5 ?_
  refine rv_eq (tgt := 14) hx hb dX1_square_8 (by decide) (by omega) (by omega) (fun hRC => ?_) (fun hRC => ?_)
  · refine lv_iconst (v := nI 0) hx hb dX1_square_14 (by decide +kernel) ?_
    refine lv_istore_n (lv' := [(1, .int (nI 0)), (0, .ref o)]) hx hb dX1_square_15 rfl hl (by decide) rfl (fun ls hl => ?_)
    have L16 : ∀ (k16 : Nat) (i : Nat) (f3 : Nat → Int32) (g3 : Nat → Int32) (w3 : Nat → Int32) (l1 : Nat → Int32) (H : Heap) (locs : List Loc) (ls : Array Slot), i + k16 = R → ms_Sup K S i (ms_sq S M0) f3 g3 w3 → va_P D vwCl [(o, .inr (1, [.int (nI K), .int (nI R), .int (nI C), .ref su, .ref sp, .ref ar, .ref ac, .ref av, .int (nI np), .ref vx, .ref py, .ref li])), (su, .inr (0, [.ref sa, .ref sb, .ref sc])), (sa, .inl (cI, S + 1, .inl f)), (sb, .inl (cI, K, .inl g)), (sc, .inl (cI, K, .inl w)), (sp, .inr (0, [.ref ta, .ref tb, .ref tc])), (ta, .inl (cI, S + 1, .inl f3)), (tb, .inl (cI, K, .inl g3)), (tc, .inl (cI, K, .inl w3)), (ar, .inl (cI, K, .inl pR)), (ac, .inl (cI, K, .inl pC)), (av, .inl (cI, K, .inl pV)), (vx, .inl (cI, S, .inl vX)), (py, .inl (cI, S, .inl pY)), (li, .inl (cI, S, .inl l1))] H → va_D A [(o, .inr (1, [.int (nI K), .int (nI R), .int (nI C), .ref su, .ref sp, .ref ar, .ref ac, .ref av, .int (nI np), .ref vx, .ref py, .ref li])), (su, .inr (0, [.ref sa, .ref sb, .ref sc])), (sa, .inl (cI, S + 1, .inl f)), (sb, .inl (cI, K, .inl g)), (sc, .inl (cI, K, .inl w)), (sp, .inr (0, [.ref ta, .ref tb, .ref tc])), (ta, .inl (cI, S + 1, .inl f3)), (tb, .inl (cI, K, .inl g3)), (tc, .inl (cI, K, .inl w3)), (ar, .inl (cI, K, .inl pR)), (ac, .inl (cI, K, .inl pC)), (av, .inl (cI, K, .inl pV)), (vx, .inl (cI, S, .inl vX)), (py, .inl (cI, S, .inl pY)), (li, .inl (cI, S, .inl l1))] → va_S A s.heap H locs → lv_has ls 2 [(1, .int (nI i)), (0, .ref o)] → W p l e rm_2 s m args below meth c H locs 0 0 Q (F0 m 16 ls []) := by
      intro k16
      induction k16 with
      | zero =>
        intro i f3 g3 w3 l1 H locs ls hk16 hs hP hD hS hl
        have hs : ms_Sup K S R (ms_sq S M0) f3 g3 w3 := by rw [show i = R by omega] at hs; exact hs
        refine lv_iload_n hx hb dX1_square_16 rfl (lv_at hl 0 rfl) ?_
        refine lv_aload_n hx hb dX1_square_17 rfl (lv_at hl 1 rfl) ?_
        refine va_get (D := D) (ci := 1) (v := .int (nI R)) (C := RX1) (T := TX1) (N := 12) hx hb hts hin1 hown hK hP 0 rfl rfl 1 (by decide) f13 (fun _ h9 => h9) rfl dX1_square_18 ?_
        refine rv_ge_t (tgt := 67) hx hb dX1_square_21 (by decide) (by omega) (by omega) ?_
        refine lv_aload_n hx hb dX1_square_67 rfl (lv_at hl 1 rfl) ?_
        refine rs_cV (As := []) (rest := []) (WR := [(su, .inr (0, [.ref sa, .ref sb, .ref sc])), (sa, .inl (cI, S + 1, .inl f)), (sb, .inl (cI, K, .inl g)), (sc, .inl (cI, K, .inl w)), (sp, .inr (0, [.ref ta, .ref tb, .ref tc])), (ta, .inl (cI, S + 1, .inl f3)), (tb, .inl (cI, K, .inl g3)), (tc, .inl (cI, K, .inl w3)), (ar, .inl (cI, K, .inl pR)), (ac, .inl (cI, K, .inl pC)), (av, .inl (cI, K, .inl pV)), (vx, .inl (cI, S, .inl vX)), (py, .inl (cI, S, .inl pY)), (li, .inl (cI, S, .inl l1))]) ⟨hx, hb, hml, hown, hts⟩ hl.1 (c_swapSupports l D cI o K R C su sp ar ac av vx py li np) (cwV 0 hts gX1_square_X1_swapSupports rfl rfl rfl (by decide +kernel) ⟨Nat.le_of_ble_eq_true rfl, Nat.le_of_ble_eq_true rfl⟩) hK hP hD hS hA [0] [1, 2, 3, 4, 5, 6, 7, 8, 9, 10, 11, 12, 13, 14] rfl rfl (by decide) (by decide) (by decide) rfl rfl rfl rfl (Nat.le_of_ble_eq_true rfl) dX1_square_68 (Nat.le_of_ble_eq_true rfl) (Nat.le_of_ble_eq_true rfl) (fun u H locs hu hP hD hS => ?_)
        have hP : va_P D vwCl [(su, .inr (0, [.ref sa, .ref sb, .ref sc])), (sa, .inl (cI, S + 1, .inl f)), (sb, .inl (cI, K, .inl g)), (sc, .inl (cI, K, .inl w)), (sp, .inr (0, [.ref ta, .ref tb, .ref tc])), (ta, .inl (cI, S + 1, .inl f3)), (tb, .inl (cI, K, .inl g3)), (tc, .inl (cI, K, .inl w3)), (ar, .inl (cI, K, .inl pR)), (ac, .inl (cI, K, .inl pC)), (av, .inl (cI, K, .inl pV)), (vx, .inl (cI, S, .inl vX)), (py, .inl (cI, S, .inl pY)), (li, .inl (cI, S, .inl l1)), (o, .inr (1, [.int (nI K), .int (nI R), .int (nI C), .ref sp, .ref su, .ref ar, .ref ac, .ref av, .int (nI np), .ref vx, .ref py, .ref li]))] H := hP
        have hD : va_D A [(su, .inr (0, [.ref sa, .ref sb, .ref sc])), (sa, .inl (cI, S + 1, .inl f)), (sb, .inl (cI, K, .inl g)), (sc, .inl (cI, K, .inl w)), (sp, .inr (0, [.ref ta, .ref tb, .ref tc])), (ta, .inl (cI, S + 1, .inl f3)), (tb, .inl (cI, K, .inl g3)), (tc, .inl (cI, K, .inl w3)), (ar, .inl (cI, K, .inl pR)), (ac, .inl (cI, K, .inl pC)), (av, .inl (cI, K, .inl pV)), (vx, .inl (cI, S, .inl vX)), (py, .inl (cI, S, .inl pY)), (li, .inl (cI, S, .inl l1)), (o, .inr (1, [.int (nI K), .int (nI R), .int (nI C), .ref sp, .ref su, .ref ar, .ref ac, .ref av, .int (nI np), .ref vx, .ref py, .ref li]))] := hD
        refine lv_aload_n hx hb dX1_square_71 rfl (lv_at hl 1 rfl) ?_
        refine va_get (D := D) (ci := 1) (v := .ref sp) (C := RX1) (T := TX1) (N := 12) hx hb hts hin1 hown hK hP 14 rfl rfl 3 (by decide) f33 (fun _ h9 => h9) rfl dX1_square_72 ?_
        refine lv_aload_n hx hb dX1_square_75 rfl (lv_at hl 1 rfl) ?_
        refine va_get (D := D) (ci := 1) (v := .int (nI R)) (C := RX1) (T := TX1) (N := 12) hx hb hts hin1 hown hK hP 14 rfl rfl 1 (by decide) f13 (fun _ h9 => h9) rfl dX1_square_76 ?_
        refine rs_cR (As := [.int (nI R)]) (rest := []) ⟨hx, hb, hml, hown, hts⟩ hl.1 (c_placesAhead l D cI sp ta tb tc (S + 1) R f3 (by omega) (by omega)) (cwV 1 hts gX1_square_X0_placesAhead rfl rfl rfl (by decide +kernel) ⟨Nat.le_of_ble_eq_true rfl, Nat.le_of_ble_eq_true rfl⟩) hK hP [4, 5] rfl rfl rfl rfl rfl (Nat.le_of_ble_eq_true rfl) dX1_square_79 (Nat.le_of_ble_eq_true rfl) (Nat.le_of_ble_eq_true rfl) (fun r hv => ?_)
        subst hv
        refine rv_top (hs.1 R (Nat.le_refl _)) ?_
        exact ret _ _ _ _ _ (((K, R, C, S, np), (ms_sq S M0), P, X, Y), ((sp, ta, tb, tc), (su, sa, sb, sc), (f3, g3, w3), (f, g, w), (pR, pC, pV), (vX, pY, l1))) dX1_square_82 (rfl) (⟨(an_square_t hRC hs.2.1).1, (an_square_t hRC hs.2.1).2.symm, st_square hr hs⟩) (hP.sub [14, 4, 5, 6, 7, 0, 1, 2, 3, 8, 9, 10, 11, 12, 13] rfl) (hD.sub [14, 4, 5, 6, 7, 0, 1, 2, 3, 8, 9, 10, 11, 12, 13] (by decide) rfl) hS
      | succ k16 ih16 =>
        intro i f3 g3 w3 l1 H locs ls hk16 hs hP hD hS hl
        have hi0 : i < R := by omega
        obtain ⟨e0, e1, h01, h1k, e2⟩ := ms_Sq hsup hi0
        refine lv_iload_n hx hb dX1_square_16 rfl (lv_at hl 0 rfl) ?_
        refine lv_aload_n hx hb dX1_square_17 rfl (lv_at hl 1 rfl) ?_
        refine va_get (D := D) (ci := 1) (v := .int (nI R)) (C := RX1) (T := TX1) (N := 12) hx hb hts hin1 hown hK hP 0 rfl rfl 1 (by decide) f13 (fun _ h9 => h9) rfl dX1_square_18 ?_
        refine rv_ge_f (tgt := 67) hx hb dX1_square_21 (by decide) (by omega) (by omega) ?_
        refine lv_aload_n hx hb dX1_square_24 rfl (lv_at hl 1 rfl) ?_
        refine va_get (D := D) (ci := 1) (v := .ref li) (C := RX1) (T := TX1) (N := 12) hx hb hts hin1 hown hK hP 0 rfl rfl 11 (by decide) f59 (fun _ h9 => h9) rfl dX1_square_25 ?_
        refine lv_iconst (v := nI 0) hx hb dX1_square_28 (by decide +kernel) ?_
        refine rs_cVS (As := [.ref li, .int (nI 0)]) (rest := []) (WR := [(o, .inr (1, [.int (nI K), .int (nI R), .int (nI C), .ref su, .ref sp, .ref ar, .ref ac, .ref av, .int (nI np), .ref vx, .ref py, .ref li])), (su, .inr (0, [.ref sa, .ref sb, .ref sc])), (sa, .inl (cI, S + 1, .inl f)), (sb, .inl (cI, K, .inl g)), (sc, .inl (cI, K, .inl w)), (sp, .inr (0, [.ref ta, .ref tb, .ref tc])), (ta, .inl (cI, S + 1, .inl f3)), (tb, .inl (cI, K, .inl g3)), (tc, .inl (cI, K, .inl w3)), (ar, .inl (cI, K, .inl pR)), (ac, .inl (cI, K, .inl pC)), (av, .inl (cI, K, .inl pV)), (vx, .inl (cI, S, .inl vX)), (py, .inl (cI, S, .inl pY))]) ⟨hx, hb, hml, hown, hts⟩ hl.1 (c_fill l D cI li S l1 (nI 0) (by omega)) (va_cwS 2 hts gX1_square_J7_fill_53178 rfl rfl rfl (by decide +kernel) ⟨Nat.le_of_ble_eq_true rfl, Nat.le_of_ble_eq_true rfl⟩) hK hP hD hS hA [14] [0, 1, 2, 3, 4, 5, 6, 7, 8, 9, 10, 11, 12, 13] rfl rfl (by decide) (by decide) (by decide) rfl rfl (Nat.le_of_ble_eq_true rfl) dX1_square_29 (Nat.le_of_ble_eq_true rfl) (Nat.le_of_ble_eq_true rfl) (fun u H locs hu hP hD hS => ?_)
        obtain ⟨u1, e9⟩ : ∃ z, z = u := ⟨_, rfl⟩
        subst e9
        have hu1 := hu
        have hP : va_P D vwCl [(o, .inr (1, [.int (nI K), .int (nI R), .int (nI C), .ref su, .ref sp, .ref ar, .ref ac, .ref av, .int (nI np), .ref vx, .ref py, .ref li])), (su, .inr (0, [.ref sa, .ref sb, .ref sc])), (sa, .inl (cI, S + 1, .inl f)), (sb, .inl (cI, K, .inl g)), (sc, .inl (cI, K, .inl w)), (sp, .inr (0, [.ref ta, .ref tb, .ref tc])), (ta, .inl (cI, S + 1, .inl f3)), (tb, .inl (cI, K, .inl g3)), (tc, .inl (cI, K, .inl w3)), (ar, .inl (cI, K, .inl pR)), (ac, .inl (cI, K, .inl pC)), (av, .inl (cI, K, .inl pV)), (vx, .inl (cI, S, .inl vX)), (py, .inl (cI, S, .inl pY)), (li, .inl (cI, S, .inl u1))] H := hP
        have hD : va_D A [(o, .inr (1, [.int (nI K), .int (nI R), .int (nI C), .ref su, .ref sp, .ref ar, .ref ac, .ref av, .int (nI np), .ref vx, .ref py, .ref li])), (su, .inr (0, [.ref sa, .ref sb, .ref sc])), (sa, .inl (cI, S + 1, .inl f)), (sb, .inl (cI, K, .inl g)), (sc, .inl (cI, K, .inl w)), (sp, .inr (0, [.ref ta, .ref tb, .ref tc])), (ta, .inl (cI, S + 1, .inl f3)), (tb, .inl (cI, K, .inl g3)), (tc, .inl (cI, K, .inl w3)), (ar, .inl (cI, K, .inl pR)), (ac, .inl (cI, K, .inl pC)), (av, .inl (cI, K, .inl pV)), (vx, .inl (cI, S, .inl vX)), (py, .inl (cI, S, .inl pY)), (li, .inl (cI, S, .inl u1))] := hD
        refine lv_aload_n hx hb dX1_square_32 rfl (lv_at hl 1 rfl) ?_
        refine va_get (D := D) (ci := 1) (v := .ref su) (C := RX1) (T := TX1) (N := 12) hx hb hts hin1 hown hK hP 0 rfl rfl 3 (by decide) f33 (fun _ h9 => h9) rfl dX1_square_33 ?_
        refine lv_aload_n hx hb dX1_square_36 rfl (lv_at hl 1 rfl) ?_
        refine va_get (D := D) (ci := 1) (v := .ref li) (C := RX1) (T := TX1) (N := 12) hx hb hts hin1 hown hK hP 0 rfl rfl 11 (by decide) f59 (fun _ h9 => h9) rfl dX1_square_37 ?_
        refine lv_iload_n hx hb dX1_square_40 rfl (lv_at hl 0 rfl) ?_
        refine rs_cV (As := [.ref li, .int (nI i)]) (rest := []) (WR := [(o, .inr (1, [.int (nI K), .int (nI R), .int (nI C), .ref su, .ref sp, .ref ar, .ref ac, .ref av, .int (nI np), .ref vx, .ref py, .ref li])), (sp, .inr (0, [.ref ta, .ref tb, .ref tc])), (ta, .inl (cI, S + 1, .inl f3)), (tb, .inl (cI, K, .inl g3)), (tc, .inl (cI, K, .inl w3)), (ar, .inl (cI, K, .inl pR)), (ac, .inl (cI, K, .inl pC)), (av, .inl (cI, K, .inl pV)), (vx, .inl (cI, S, .inl vX)), (py, .inl (cI, S, .inl pY))]) ⟨hx, hb, hml, hown, hts⟩ hl.1 (c_addSquaredRowTo l D cI su sa sb sc K li S R i f g w u1 M0 hsup hi0 (by omega) (by omega) (by omega) (fun a b hz => Nat.lt_of_not_le (fun q => hz (hM a b (Or.inr (by omega)))))) (cwV 2 hts gX1_square_X0_addSquaredRowTo rfl rfl rfl (by decide +kernel) ⟨Nat.le_of_ble_eq_true rfl, Nat.le_of_ble_eq_true rfl⟩) hK hP hD hS hA [1, 2, 3, 4, 14] [0, 5, 6, 7, 8, 9, 10, 11, 12, 13] rfl rfl (by decide) (by decide) (by decide) rfl rfl rfl rfl (Nat.le_of_ble_eq_true rfl) dX1_square_41 (Nat.le_of_ble_eq_true rfl) (Nat.le_of_ble_eq_true rfl) (fun u H locs hu hP hD hS => ?_)
        obtain ⟨u3, e9⟩ : ∃ z, z = u := ⟨_, rfl⟩
        subst e9
        have hP : va_P D vwCl [(o, .inr (1, [.int (nI K), .int (nI R), .int (nI C), .ref su, .ref sp, .ref ar, .ref ac, .ref av, .int (nI np), .ref vx, .ref py, .ref li])), (sp, .inr (0, [.ref ta, .ref tb, .ref tc])), (ta, .inl (cI, S + 1, .inl f3)), (tb, .inl (cI, K, .inl g3)), (tc, .inl (cI, K, .inl w3)), (ar, .inl (cI, K, .inl pR)), (ac, .inl (cI, K, .inl pC)), (av, .inl (cI, K, .inl pV)), (vx, .inl (cI, S, .inl vX)), (py, .inl (cI, S, .inl pY)), (su, .inr (0, [.ref sa, .ref sb, .ref sc])), (sa, .inl (cI, S + 1, .inl f)), (sb, .inl (cI, K, .inl g)), (sc, .inl (cI, K, .inl w)), (li, .inl (cI, S, .inl u3))] H := hP
        have hD : va_D A [(o, .inr (1, [.int (nI K), .int (nI R), .int (nI C), .ref su, .ref sp, .ref ar, .ref ac, .ref av, .int (nI np), .ref vx, .ref py, .ref li])), (sp, .inr (0, [.ref ta, .ref tb, .ref tc])), (ta, .inl (cI, S + 1, .inl f3)), (tb, .inl (cI, K, .inl g3)), (tc, .inl (cI, K, .inl w3)), (ar, .inl (cI, K, .inl pR)), (ac, .inl (cI, K, .inl pC)), (av, .inl (cI, K, .inl pV)), (vx, .inl (cI, S, .inl vX)), (py, .inl (cI, S, .inl pY)), (su, .inr (0, [.ref sa, .ref sb, .ref sc])), (sa, .inl (cI, S + 1, .inl f)), (sb, .inl (cI, K, .inl g)), (sc, .inl (cI, K, .inl w)), (li, .inl (cI, S, .inl u3))] := hD
        have hu3 : ∀ j, j < S → u3 j = ms_sq S M0 i j := fun j hj => by rw [hu j hj, hu1 j hj, ms_nz, Int32.zero_add]; rfl
        refine lv_aload_n hx hb dX1_square_44 rfl (lv_at hl 1 rfl) ?_
        refine va_get (D := D) (ci := 1) (v := .ref sp) (C := RX1) (T := TX1) (N := 12) hx hb hts hin1 hown hK hP 0 rfl rfl 4 (by decide) f37 (fun _ h9 => h9) rfl dX1_square_45 ?_
        refine lv_iload_n hx hb dX1_square_48 rfl (lv_at hl 0 rfl) ?_
        refine lv_aload_n hx hb dX1_square_49 rfl (lv_at hl 1 rfl) ?_
        refine va_get (D := D) (ci := 1) (v := .ref li) (C := RX1) (T := TX1) (N := 12) hx hb hts hin1 hown hK hP 0 rfl rfl 11 (by decide) f59 (fun _ h9 => h9) rfl dX1_square_50 ?_
        refine rs_cI (As := [.int (nI i), .ref li]) (rest := []) (WR := [(o, .inr (1, [.int (nI K), .int (nI R), .int (nI C), .ref su, .ref sp, .ref ar, .ref ac, .ref av, .int (nI np), .ref vx, .ref py, .ref li])), (ar, .inl (cI, K, .inl pR)), (ac, .inl (cI, K, .inl pC)), (av, .inl (cI, K, .inl pV)), (vx, .inl (cI, S, .inl vX)), (py, .inl (cI, S, .inl pY)), (su, .inr (0, [.ref sa, .ref sb, .ref sc])), (sa, .inl (cI, S + 1, .inl f)), (sb, .inl (cI, K, .inl g)), (sc, .inl (cI, K, .inl w))]) ⟨hx, hb, hml, hown, hts⟩ hl.1 (c_putRow l D cI sp ta tb tc (S + 1) K f3 g3 w3 li S u3 i (ms_sc (ms_sq S M0) S i) (by omega) (by omega) (by omega) (by omega) (hs.1 i (Nat.le_refl _)) hs.2.1) (cwV 2 hts gX1_square_X0_putRow rfl rfl rfl (by decide +kernel) ⟨Nat.le_of_ble_eq_true rfl, Nat.le_of_ble_eq_true rfl⟩) hK hP hD hS hA [1, 2, 3, 4, 14] [0, 5, 6, 7, 8, 9, 10, 11, 12, 13] rfl rfl (by decide) (by decide) (by decide) rfl rfl rfl rfl (Nat.le_of_ble_eq_true rfl) dX1_square_53 (Nat.le_of_ble_eq_true rfl) (Nat.le_of_ble_eq_true rfl) (fun r u H locs hu hP hD hS => ?_)
        obtain ⟨f4, g4, w4⟩ := u
        have hP : va_P D vwCl [(o, .inr (1, [.int (nI K), .int (nI R), .int (nI C), .ref su, .ref sp, .ref ar, .ref ac, .ref av, .int (nI np), .ref vx, .ref py, .ref li])), (ar, .inl (cI, K, .inl pR)), (ac, .inl (cI, K, .inl pC)), (av, .inl (cI, K, .inl pV)), (vx, .inl (cI, S, .inl vX)), (py, .inl (cI, S, .inl pY)), (su, .inr (0, [.ref sa, .ref sb, .ref sc])), (sa, .inl (cI, S + 1, .inl f)), (sb, .inl (cI, K, .inl g)), (sc, .inl (cI, K, .inl w)), (sp, .inr (0, [.ref ta, .ref tb, .ref tc])), (ta, .inl (cI, S + 1, .inl f4)), (tb, .inl (cI, K, .inl g4)), (tc, .inl (cI, K, .inl w4)), (li, .inl (cI, S, .inl u3))] H := hP
        have hD : va_D A [(o, .inr (1, [.int (nI K), .int (nI R), .int (nI C), .ref su, .ref sp, .ref ar, .ref ac, .ref av, .int (nI np), .ref vx, .ref py, .ref li])), (ar, .inl (cI, K, .inl pR)), (ac, .inl (cI, K, .inl pC)), (av, .inl (cI, K, .inl pV)), (vx, .inl (cI, S, .inl vX)), (py, .inl (cI, S, .inl pY)), (su, .inr (0, [.ref sa, .ref sb, .ref sc])), (sa, .inl (cI, S + 1, .inl f)), (sb, .inl (cI, K, .inl g)), (sc, .inl (cI, K, .inl w)), (sp, .inr (0, [.ref ta, .ref tb, .ref tc])), (ta, .inl (cI, S + 1, .inl f4)), (tb, .inl (cI, K, .inl g4)), (tc, .inl (cI, K, .inl w4)), (li, .inl (cI, S, .inl u3))] := hD
        rcases hu with ⟨k1, rfl, k3, k4, k5⟩ | ⟨k1, rfl, k3⟩
        · refine rv_ifne_t (tgt := 61) hx hb dX1_square_56 (by decide) (by decide) ?_
          refine lv_iinc (v := nI (i + 1)) (lv' := [(1, .int (nI (i + 1))), (0, .ref o)]) hx hb dX1_square_61 hl (k := 0) rfl (rv_inc _) (by decide) rfl (fun ls hl => ?_)
          refine lv_goto (tgt := 16) hx hb dX1_square_64 (by decide) ?_
          exact ih16 (i + 1) f4 g4 w4 u3 _ _ _ (by omega) (ms_supstep hs hu3 k1 k3 k4 k5) (hP.sub [0, 6, 7, 8, 9, 10, 11, 12, 13, 1, 2, 3, 4, 5, 14] rfl) (hD.sub [0, 6, 7, 8, 9, 10, 11, 12, 13, 1, 2, 3, 4, 5, 14] (by decide) rfl) hS (lv_sub hl [0, 1] rfl)
        · refine rv_ifne_f (tgt := 61) hx hb dX1_square_56 (by decide) rfl ?_
          refine lv_iconst (v := (-1)) hx hb dX1_square_59 (by decide +kernel) ?_
          exact ret _ _ _ _ _ (((K, R, C, S, np), M0, P, X, Y), ((su, sa, sb, sc), (sp, ta, tb, tc), (f, g, w), (f4, g4, w4), (pR, pC, pV), (vX, pY, u3))) dX1_square_60 (rfl) (⟨(an_square_f hRC (ms_sc_over hi0 hu3 k1)).1, (an_square_f hRC (ms_sc_over hi0 hu3 k1)).2.symm, st_spare hr (by have k3 : f4 = f3 := k3; rw [k3]; exact st_sup0 hs)⟩) (hP.sub [0, 6, 7, 8, 9, 10, 11, 12, 13, 1, 2, 3, 4, 5, 14] rfl) (hD.sub [0, 6, 7, 8, 9, 10, 11, 12, 13, 1, 2, 3, 4, 5, 14] (by decide) rfl) hS
    exact L16 _ 0 f2 g2 w2 lI _ _ _ (Nat.zero_add _) (ms_sup0 hf2) (hP.sub [0, 1, 2, 3, 4, 5, 6, 7, 8, 9, 10, 11, 12, 13, 14] rfl) (hD.sub [0, 1, 2, 3, 4, 5, 6, 7, 8, 9, 10, 11, 12, 13, 14] (by decide) rfl) hS (lv_sub hl [0, 1] rfl)
  · refine lv_bipush (v := (-2)) hx hb dX1_square_11 (by decide +kernel) ?_
    exact ret _ _ _ _ _ (((K, R, C, S, np), M0, P, X, Y), ((su, sa, sb, sc), (sp, ta, tb, tc), (f, g, w), (f2, g2, w2), (pR, pC, pV), (vX, pY, lI))) dX1_square_13 (rfl) (⟨(an_square_n hRC).1, (an_square_n hRC).2.symm, hr⟩) (hP.sub [0, 1, 2, 3, 4, 5, 6, 7, 8, 9, 10, 11, 12, 13, 14] rfl) (hD.sub [0, 1, 2, 3, 4, 5, 6, 7, 8, 9, 10, 11, 12, 13, 14] (by decide) rfl) hS

set_option maxHeartbeats 4000000 in
set_option maxRecDepth 100000 in
theorem c_transpose (l : Launch) (D : va_G) (cI : ClassId) (o ar ac av vx py li : Nat) (a : st_A) (u : st_C) (hr : st_rc a u)  : MetI l yX1_transpose wsX1_transpose rm_2 D [(cI, .int)] [.ref o] (st_wC cI o ar ac av vx py li a u) (fun (r : Int32) (x : st_A × st_C) => r = an_turn a ∧ x.1 = up_turn a ∧ st_rc x.1 x.2) (fun x => st_wC cI o ar ac av vx py li x.1 x.2) 0 0 := by
  obtain ⟨⟨K, R, C, S, np⟩, M0, P, X, Y⟩ := a
  obtain ⟨⟨su, sa, sb, sc⟩, ⟨sp, ta, tb, tc⟩, ⟨f, g, w⟩, ⟨f2, g2, w2⟩, ⟨pR, pC, pV⟩, ⟨vX, pY, lI⟩⟩ := u
  have hr : st_RC K R C S np M0 P X Y f g w f2 pR pC pV vX pY := hr
  obtain ⟨⟨⟨b1, b2, b3, b4, b5, b6, b7, b8⟩, hM⟩, hsup, hf2, hpe, hps, hX, hY⟩ := id hr
  refine rs_I (cc := cX1_transpose) (maxL := 3) (rty := .boolean) (by decide) rfl (Nat.le_of_ble_eq_true rfl) ?_
  intro p e s m args below meth c Q A ls hx hb hml hown hts hP hK hD hS hA hl ret
  have f13 := hts (.fieldLink RX1 13 "RowSparse" "rows" "I") (by decide +kernel)
  have f17 := hts (.fieldLink RX1 17 "RowSparse" "cols" "I") (by decide +kernel)
  have f33 := hts (.fieldLink RX1 33 "RowSparse" "support" "LRowSparse$Support;") (by decide +kernel)
  have f37 := hts (.fieldLink RX1 37 "RowSparse" "spare" "LRowSparse$Support;") (by decide +kernel)
  have f50 := hts (.fieldLink RX1 50 "RowSparse" "pending" "I") (by decide +kernel)
  have f53 := hts (.fieldLink RX1 53 "RowSparse" "vector" "[I") (by decide +kernel)
  have f56 := hts (.fieldLink RX1 56 "RowSparse" "product" "[I") (by decide +kernel)
  have f59 := hts (.fieldLink RX1 59 "RowSparse" "line" "[I") (by decide +kernel)
  have hin1 : ∀ w ∈ u_ws RX1 TX1 12, w ∈ wsX1_transpose := by decide +kernel
  have hl : lv_has ls 3 [(0, .ref o)] := hl
  have hP : va_P D vwCl [(o, .inr (1, [.int (nI K), .int (nI R), .int (nI C), .ref su, .ref sp, .ref ar, .ref ac, .ref av, .int (nI np), .ref vx, .ref py, .ref li])), (su, .inr (0, [.ref sa, .ref sb, .ref sc])), (sa, .inl (cI, S + 1, .inl f)), (sb, .inl (cI, K, .inl g)), (sc, .inl (cI, K, .inl w)), (sp, .inr (0, [.ref ta, .ref tb, .ref tc])), (ta, .inl (cI, S + 1, .inl f2)), (tb, .inl (cI, K, .inl g2)), (tc, .inl (cI, K, .inl w2)), (ar, .inl (cI, K, .inl pR)), (ac, .inl (cI, K, .inl pC)), (av, .inl (cI, K, .inl pV)), (vx, .inl (cI, S, .inl vX)), (py, .inl (cI, S, .inl pY)), (li, .inl (cI, S, .inl lI))] s.heap := hP
  have hD : va_D A [(o, .inr (1, [.int (nI K), .int (nI R), .int (nI C), .ref su, .ref sp, .ref ar, .ref ac, .ref av, .int (nI np), .ref vx, .ref py, .ref li])), (su, .inr (0, [.ref sa, .ref sb, .ref sc])), (sa, .inl (cI, S + 1, .inl f)), (sb, .inl (cI, K, .inl g)), (sc, .inl (cI, K, .inl w)), (sp, .inr (0, [.ref ta, .ref tb, .ref tc])), (ta, .inl (cI, S + 1, .inl f2)), (tb, .inl (cI, K, .inl g2)), (tc, .inl (cI, K, .inl w2)), (ar, .inl (cI, K, .inl pR)), (ac, .inl (cI, K, .inl pC)), (av, .inl (cI, K, .inl pV)), (vx, .inl (cI, S, .inl vX)), (py, .inl (cI, S, .inl pY)), (li, .inl (cI, S, .inl lI))] := hD
  refine lv_aload_n hx hb dX1_transpose_0 rfl (lv_at hl 0 rfl) ?_
  refine va_get (D := D) (ci := 1) (v := .int (nI np)) (C := RX1) (T := TX1) (N := 12) hx hb hts hin1 hown hK hP 0 rfl rfl 8 (by decide) f50 (fun _ h9 => h9) rfl dX1_transpose_1 ?_
  refine lv_if_le (tgt := 9) hx hb dX1_transpose_4 (by decide) (fun h1 => ?_) (fun h1 => ?_)
  · have h0 : np = 0 := by
      rw [← ms_nz, nI_leI (by omega) (by omega)] at h1
      omega
    have htn := ms_turn b3 b4 hM
    refine lv_iconst (v := nI 0) hx hb dX1_transpose_9 (by decide +kernel) ?_
    refine lv_istore_n (lv' := [(1, .int (nI 0)), (0, .ref o)]) hx hb dX1_transpose_10 rfl hl (by decide) rfl (fun ls hl => ?_)
    have L11 : ∀ (k11 : Nat) (j : Nat) (f3 : Nat → Int32) (g3 : Nat → Int32) (w3 : Nat → Int32) (l1 : Nat → Int32) (H : Heap) (locs : List Loc) (ls : Array Slot), j + k11 = C → ms_Sup K S j (fun i j => M0 j i) f3 g3 w3 → va_P D vwCl [(o, .inr (1, [.int (nI K), .int (nI R), .int (nI C), .ref su, .ref sp, .ref ar, .ref ac, .ref av, .int (nI np), .ref vx, .ref py, .ref li])), (su, .inr (0, [.ref sa, .ref sb, .ref sc])), (sa, .inl (cI, S + 1, .inl f)), (sb, .inl (cI, K, .inl g)), (sc, .inl (cI, K, .inl w)), (sp, .inr (0, [.ref ta, .ref tb, .ref tc])), (ta, .inl (cI, S + 1, .inl f3)), (tb, .inl (cI, K, .inl g3)), (tc, .inl (cI, K, .inl w3)), (ar, .inl (cI, K, .inl pR)), (ac, .inl (cI, K, .inl pC)), (av, .inl (cI, K, .inl pV)), (vx, .inl (cI, S, .inl vX)), (py, .inl (cI, S, .inl pY)), (li, .inl (cI, S, .inl l1))] H → va_D A [(o, .inr (1, [.int (nI K), .int (nI R), .int (nI C), .ref su, .ref sp, .ref ar, .ref ac, .ref av, .int (nI np), .ref vx, .ref py, .ref li])), (su, .inr (0, [.ref sa, .ref sb, .ref sc])), (sa, .inl (cI, S + 1, .inl f)), (sb, .inl (cI, K, .inl g)), (sc, .inl (cI, K, .inl w)), (sp, .inr (0, [.ref ta, .ref tb, .ref tc])), (ta, .inl (cI, S + 1, .inl f3)), (tb, .inl (cI, K, .inl g3)), (tc, .inl (cI, K, .inl w3)), (ar, .inl (cI, K, .inl pR)), (ac, .inl (cI, K, .inl pC)), (av, .inl (cI, K, .inl pV)), (vx, .inl (cI, S, .inl vX)), (py, .inl (cI, S, .inl pY)), (li, .inl (cI, S, .inl l1))] → va_S A s.heap H locs → lv_has ls 3 [(1, .int (nI j)), (0, .ref o)] → W p l e rm_2 s m args below meth c H locs 0 0 Q (F0 m 11 ls []) := by
      intro k11
      induction k11 with
      | zero =>
        intro j f3 g3 w3 l1 H locs ls hk11 hs hP hD hS hl
        have hs : ms_Sup K S C (fun i j => M0 j i) f3 g3 w3 := by rw [show j = C by omega] at hs; exact hs
        refine lv_iload_n hx hb dX1_transpose_11 rfl (lv_at hl 0 rfl) ?_
        refine lv_aload_n hx hb dX1_transpose_12 rfl (lv_at hl 1 rfl) ?_
        refine va_get (D := D) (ci := 1) (v := .int (nI C)) (C := RX1) (T := TX1) (N := 12) hx hb hts hin1 hown hK hP 0 rfl rfl 2 (by decide) f17 (fun _ h9 => h9) rfl dX1_transpose_13 ?_
        refine rv_ge_t (tgt := 77) hx hb dX1_transpose_16 (by decide) (by omega) (by omega) ?_
        refine lv_aload_n hx hb dX1_transpose_77 rfl (lv_at hl 1 rfl) ?_
        refine rs_cV (As := []) (rest := []) (WR := [(su, .inr (0, [.ref sa, .ref sb, .ref sc])), (sa, .inl (cI, S + 1, .inl f)), (sb, .inl (cI, K, .inl g)), (sc, .inl (cI, K, .inl w)), (sp, .inr (0, [.ref ta, .ref tb, .ref tc])), (ta, .inl (cI, S + 1, .inl f3)), (tb, .inl (cI, K, .inl g3)), (tc, .inl (cI, K, .inl w3)), (ar, .inl (cI, K, .inl pR)), (ac, .inl (cI, K, .inl pC)), (av, .inl (cI, K, .inl pV)), (vx, .inl (cI, S, .inl vX)), (py, .inl (cI, S, .inl pY)), (li, .inl (cI, S, .inl l1))]) ⟨hx, hb, hml, hown, hts⟩ hl.1 (c_swapSupports l D cI o K R C su sp ar ac av vx py li np) (cwV 0 hts gX1_transpose_X1_swapSupports rfl rfl rfl (by decide +kernel) ⟨Nat.le_of_ble_eq_true rfl, Nat.le_of_ble_eq_true rfl⟩) hK hP hD hS hA [0] [1, 2, 3, 4, 5, 6, 7, 8, 9, 10, 11, 12, 13, 14] rfl rfl (by decide) (by decide) (by decide) rfl rfl rfl rfl (Nat.le_of_ble_eq_true rfl) dX1_transpose_78 (Nat.le_of_ble_eq_true rfl) (Nat.le_of_ble_eq_true rfl) (fun u H locs hu hP hD hS => ?_)
        have hP : va_P D vwCl [(su, .inr (0, [.ref sa, .ref sb, .ref sc])), (sa, .inl (cI, S + 1, .inl f)), (sb, .inl (cI, K, .inl g)), (sc, .inl (cI, K, .inl w)), (sp, .inr (0, [.ref ta, .ref tb, .ref tc])), (ta, .inl (cI, S + 1, .inl f3)), (tb, .inl (cI, K, .inl g3)), (tc, .inl (cI, K, .inl w3)), (ar, .inl (cI, K, .inl pR)), (ac, .inl (cI, K, .inl pC)), (av, .inl (cI, K, .inl pV)), (vx, .inl (cI, S, .inl vX)), (py, .inl (cI, S, .inl pY)), (li, .inl (cI, S, .inl l1)), (o, .inr (1, [.int (nI K), .int (nI R), .int (nI C), .ref sp, .ref su, .ref ar, .ref ac, .ref av, .int (nI np), .ref vx, .ref py, .ref li]))] H := hP
        have hD : va_D A [(su, .inr (0, [.ref sa, .ref sb, .ref sc])), (sa, .inl (cI, S + 1, .inl f)), (sb, .inl (cI, K, .inl g)), (sc, .inl (cI, K, .inl w)), (sp, .inr (0, [.ref ta, .ref tb, .ref tc])), (ta, .inl (cI, S + 1, .inl f3)), (tb, .inl (cI, K, .inl g3)), (tc, .inl (cI, K, .inl w3)), (ar, .inl (cI, K, .inl pR)), (ac, .inl (cI, K, .inl pC)), (av, .inl (cI, K, .inl pV)), (vx, .inl (cI, S, .inl vX)), (py, .inl (cI, S, .inl pY)), (li, .inl (cI, S, .inl l1)), (o, .inr (1, [.int (nI K), .int (nI R), .int (nI C), .ref sp, .ref su, .ref ar, .ref ac, .ref av, .int (nI np), .ref vx, .ref py, .ref li]))] := hD
        refine lv_aload_n hx hb dX1_transpose_81 rfl (lv_at hl 1 rfl) ?_
        refine va_get (D := D) (ci := 1) (v := .int (nI R)) (C := RX1) (T := TX1) (N := 12) hx hb hts hin1 hown hK hP 14 rfl rfl 1 (by decide) f13 (fun _ h9 => h9) rfl dX1_transpose_82 ?_
        refine lv_istore_n (lv' := [(1, .int (nI R)), (0, .ref o)]) hx hb dX1_transpose_85 rfl hl (by decide) rfl (fun ls hl => ?_)
        refine lv_aload_n hx hb dX1_transpose_86 rfl (lv_at hl 1 rfl) ?_
        refine lv_aload_n hx hb dX1_transpose_87 rfl (lv_at hl 1 rfl) ?_
        refine va_get (D := D) (ci := 1) (v := .int (nI C)) (C := RX1) (T := TX1) (N := 12) hx hb hts hin1 hown hK hP 14 rfl rfl 2 (by decide) f17 (fun _ h9 => h9) rfl dX1_transpose_88 ?_
        refine va_put (D := D) (ci := 1) (v := .int (nI C)) (ty := .int) (C := RX1) (T := TX1) (N := 12) hx hb hts hin1 tyX1 tyX1_ok nmX1 hown hK hP hD hS 14 rfl rfl 1 (by decide) f13 (fun _ h9 => h9) rfl (by decide +kernel) rfl rfl (Nat.le_of_ble_eq_true rfl) dX1_transpose_91 (fun H locs hP hD hS => ?_)
        have hP : va_P D vwCl [(su, .inr (0, [.ref sa, .ref sb, .ref sc])), (sa, .inl (cI, S + 1, .inl f)), (sb, .inl (cI, K, .inl g)), (sc, .inl (cI, K, .inl w)), (sp, .inr (0, [.ref ta, .ref tb, .ref tc])), (ta, .inl (cI, S + 1, .inl f3)), (tb, .inl (cI, K, .inl g3)), (tc, .inl (cI, K, .inl w3)), (ar, .inl (cI, K, .inl pR)), (ac, .inl (cI, K, .inl pC)), (av, .inl (cI, K, .inl pV)), (vx, .inl (cI, S, .inl vX)), (py, .inl (cI, S, .inl pY)), (li, .inl (cI, S, .inl l1)), (o, .inr (1, [.int (nI K), .int (nI C), .int (nI C), .ref sp, .ref su, .ref ar, .ref ac, .ref av, .int (nI np), .ref vx, .ref py, .ref li]))] H := hP
        have hD : va_D A [(su, .inr (0, [.ref sa, .ref sb, .ref sc])), (sa, .inl (cI, S + 1, .inl f)), (sb, .inl (cI, K, .inl g)), (sc, .inl (cI, K, .inl w)), (sp, .inr (0, [.ref ta, .ref tb, .ref tc])), (ta, .inl (cI, S + 1, .inl f3)), (tb, .inl (cI, K, .inl g3)), (tc, .inl (cI, K, .inl w3)), (ar, .inl (cI, K, .inl pR)), (ac, .inl (cI, K, .inl pC)), (av, .inl (cI, K, .inl pV)), (vx, .inl (cI, S, .inl vX)), (py, .inl (cI, S, .inl pY)), (li, .inl (cI, S, .inl l1)), (o, .inr (1, [.int (nI K), .int (nI C), .int (nI C), .ref sp, .ref su, .ref ar, .ref ac, .ref av, .int (nI np), .ref vx, .ref py, .ref li]))] := hD
        refine lv_aload_n hx hb dX1_transpose_94 rfl (lv_at hl 1 rfl) ?_
        refine lv_iload_n hx hb dX1_transpose_95 rfl (lv_at hl 0 rfl) ?_
        refine va_put (D := D) (ci := 1) (v := .int (nI R)) (ty := .int) (C := RX1) (T := TX1) (N := 12) hx hb hts hin1 tyX1 tyX1_ok nmX1 hown hK hP hD hS 14 rfl rfl 2 (by decide) f17 (fun _ h9 => h9) rfl (by decide +kernel) rfl rfl (Nat.le_of_ble_eq_true rfl) dX1_transpose_96 (fun H locs hP hD hS => ?_)
        have hP : va_P D vwCl [(su, .inr (0, [.ref sa, .ref sb, .ref sc])), (sa, .inl (cI, S + 1, .inl f)), (sb, .inl (cI, K, .inl g)), (sc, .inl (cI, K, .inl w)), (sp, .inr (0, [.ref ta, .ref tb, .ref tc])), (ta, .inl (cI, S + 1, .inl f3)), (tb, .inl (cI, K, .inl g3)), (tc, .inl (cI, K, .inl w3)), (ar, .inl (cI, K, .inl pR)), (ac, .inl (cI, K, .inl pC)), (av, .inl (cI, K, .inl pV)), (vx, .inl (cI, S, .inl vX)), (py, .inl (cI, S, .inl pY)), (li, .inl (cI, S, .inl l1)), (o, .inr (1, [.int (nI K), .int (nI C), .int (nI R), .ref sp, .ref su, .ref ar, .ref ac, .ref av, .int (nI np), .ref vx, .ref py, .ref li]))] H := hP
        have hD : va_D A [(su, .inr (0, [.ref sa, .ref sb, .ref sc])), (sa, .inl (cI, S + 1, .inl f)), (sb, .inl (cI, K, .inl g)), (sc, .inl (cI, K, .inl w)), (sp, .inr (0, [.ref ta, .ref tb, .ref tc])), (ta, .inl (cI, S + 1, .inl f3)), (tb, .inl (cI, K, .inl g3)), (tc, .inl (cI, K, .inl w3)), (ar, .inl (cI, K, .inl pR)), (ac, .inl (cI, K, .inl pC)), (av, .inl (cI, K, .inl pV)), (vx, .inl (cI, S, .inl vX)), (py, .inl (cI, S, .inl pY)), (li, .inl (cI, S, .inl l1)), (o, .inr (1, [.int (nI K), .int (nI C), .int (nI R), .ref sp, .ref su, .ref ar, .ref ac, .ref av, .int (nI np), .ref vx, .ref py, .ref li]))] := hD
        refine lv_aload_n hx hb dX1_transpose_99 rfl (lv_at hl 1 rfl) ?_
        refine va_get (D := D) (ci := 1) (v := .ref vx) (C := RX1) (T := TX1) (N := 12) hx hb hts hin1 hown hK hP 14 rfl rfl 9 (by decide) f53 (fun _ h9 => h9) rfl dX1_transpose_100 ?_
        refine lv_iconst (v := nI 0) hx hb dX1_transpose_103 (by decide +kernel) ?_
        refine rs_cVS (As := [.ref vx, .int (nI 0)]) (rest := []) (WR := [(su, .inr (0, [.ref sa, .ref sb, .ref sc])), (sa, .inl (cI, S + 1, .inl f)), (sb, .inl (cI, K, .inl g)), (sc, .inl (cI, K, .inl w)), (sp, .inr (0, [.ref ta, .ref tb, .ref tc])), (ta, .inl (cI, S + 1, .inl f3)), (tb, .inl (cI, K, .inl g3)), (tc, .inl (cI, K, .inl w3)), (ar, .inl (cI, K, .inl pR)), (ac, .inl (cI, K, .inl pC)), (av, .inl (cI, K, .inl pV)), (py, .inl (cI, S, .inl pY)), (li, .inl (cI, S, .inl l1)), (o, .inr (1, [.int (nI K), .int (nI C), .int (nI R), .ref sp, .ref su, .ref ar, .ref ac, .ref av, .int (nI np), .ref vx, .ref py, .ref li]))]) ⟨hx, hb, hml, hown, hts⟩ hl.1 (c_fill l D cI vx S vX (nI 0) (by omega)) (va_cwS 2 hts gX1_transpose_J7_fill_53178 rfl rfl rfl (by decide +kernel) ⟨Nat.le_of_ble_eq_true rfl, Nat.le_of_ble_eq_true rfl⟩) hK hP hD hS hA [11] [0, 1, 2, 3, 4, 5, 6, 7, 8, 9, 10, 12, 13, 14] rfl rfl (by decide) (by decide) (by decide) rfl rfl (Nat.le_of_ble_eq_true rfl) dX1_transpose_104 (Nat.le_of_ble_eq_true rfl) (Nat.le_of_ble_eq_true rfl) (fun u H locs hu hP hD hS => ?_)
        obtain ⟨v1, e9⟩ : ∃ z, z = u := ⟨_, rfl⟩
        subst e9
        have hv1 := hu
        have hP : va_P D vwCl [(su, .inr (0, [.ref sa, .ref sb, .ref sc])), (sa, .inl (cI, S + 1, .inl f)), (sb, .inl (cI, K, .inl g)), (sc, .inl (cI, K, .inl w)), (sp, .inr (0, [.ref ta, .ref tb, .ref tc])), (ta, .inl (cI, S + 1, .inl f3)), (tb, .inl (cI, K, .inl g3)), (tc, .inl (cI, K, .inl w3)), (ar, .inl (cI, K, .inl pR)), (ac, .inl (cI, K, .inl pC)), (av, .inl (cI, K, .inl pV)), (py, .inl (cI, S, .inl pY)), (li, .inl (cI, S, .inl l1)), (o, .inr (1, [.int (nI K), .int (nI C), .int (nI R), .ref sp, .ref su, .ref ar, .ref ac, .ref av, .int (nI np), .ref vx, .ref py, .ref li])), (vx, .inl (cI, S, .inl v1))] H := hP
        have hD : va_D A [(su, .inr (0, [.ref sa, .ref sb, .ref sc])), (sa, .inl (cI, S + 1, .inl f)), (sb, .inl (cI, K, .inl g)), (sc, .inl (cI, K, .inl w)), (sp, .inr (0, [.ref ta, .ref tb, .ref tc])), (ta, .inl (cI, S + 1, .inl f3)), (tb, .inl (cI, K, .inl g3)), (tc, .inl (cI, K, .inl w3)), (ar, .inl (cI, K, .inl pR)), (ac, .inl (cI, K, .inl pC)), (av, .inl (cI, K, .inl pV)), (py, .inl (cI, S, .inl pY)), (li, .inl (cI, S, .inl l1)), (o, .inr (1, [.int (nI K), .int (nI C), .int (nI R), .ref sp, .ref su, .ref ar, .ref ac, .ref av, .int (nI np), .ref vx, .ref py, .ref li])), (vx, .inl (cI, S, .inl v1))] := hD
        refine lv_aload_n hx hb dX1_transpose_107 rfl (lv_at hl 1 rfl) ?_
        refine va_get (D := D) (ci := 1) (v := .ref py) (C := RX1) (T := TX1) (N := 12) hx hb hts hin1 hown hK hP 13 rfl rfl 10 (by decide) f56 (fun _ h9 => h9) rfl dX1_transpose_108 ?_
        refine lv_iconst (v := nI 0) hx hb dX1_transpose_111 (by decide +kernel) ?_
        refine rs_cVS (As := [.ref py, .int (nI 0)]) (rest := []) (WR := [(su, .inr (0, [.ref sa, .ref sb, .ref sc])), (sa, .inl (cI, S + 1, .inl f)), (sb, .inl (cI, K, .inl g)), (sc, .inl (cI, K, .inl w)), (sp, .inr (0, [.ref ta, .ref tb, .ref tc])), (ta, .inl (cI, S + 1, .inl f3)), (tb, .inl (cI, K, .inl g3)), (tc, .inl (cI, K, .inl w3)), (ar, .inl (cI, K, .inl pR)), (ac, .inl (cI, K, .inl pC)), (av, .inl (cI, K, .inl pV)), (li, .inl (cI, S, .inl l1)), (o, .inr (1, [.int (nI K), .int (nI C), .int (nI R), .ref sp, .ref su, .ref ar, .ref ac, .ref av, .int (nI np), .ref vx, .ref py, .ref li])), (vx, .inl (cI, S, .inl v1))]) ⟨hx, hb, hml, hown, hts⟩ hl.1 (c_fill l D cI py S pY (nI 0) (by omega)) (va_cwS 2 hts gX1_transpose_J7_fill_53178 rfl rfl rfl (by decide +kernel) ⟨Nat.le_of_ble_eq_true rfl, Nat.le_of_ble_eq_true rfl⟩) hK hP hD hS hA [11] [0, 1, 2, 3, 4, 5, 6, 7, 8, 9, 10, 12, 13, 14] rfl rfl (by decide) (by decide) (by decide) rfl rfl (Nat.le_of_ble_eq_true rfl) dX1_transpose_112 (Nat.le_of_ble_eq_true rfl) (Nat.le_of_ble_eq_true rfl) (fun u H locs hu hP hD hS => ?_)
        obtain ⟨v2, e9⟩ : ∃ z, z = u := ⟨_, rfl⟩
        subst e9
        have hv2 := hu
        have hP : va_P D vwCl [(su, .inr (0, [.ref sa, .ref sb, .ref sc])), (sa, .inl (cI, S + 1, .inl f)), (sb, .inl (cI, K, .inl g)), (sc, .inl (cI, K, .inl w)), (sp, .inr (0, [.ref ta, .ref tb, .ref tc])), (ta, .inl (cI, S + 1, .inl f3)), (tb, .inl (cI, K, .inl g3)), (tc, .inl (cI, K, .inl w3)), (ar, .inl (cI, K, .inl pR)), (ac, .inl (cI, K, .inl pC)), (av, .inl (cI, K, .inl pV)), (li, .inl (cI, S, .inl l1)), (o, .inr (1, [.int (nI K), .int (nI C), .int (nI R), .ref sp, .ref su, .ref ar, .ref ac, .ref av, .int (nI np), .ref vx, .ref py, .ref li])), (vx, .inl (cI, S, .inl v1)), (py, .inl (cI, S, .inl v2))] H := hP
        have hD : va_D A [(su, .inr (0, [.ref sa, .ref sb, .ref sc])), (sa, .inl (cI, S + 1, .inl f)), (sb, .inl (cI, K, .inl g)), (sc, .inl (cI, K, .inl w)), (sp, .inr (0, [.ref ta, .ref tb, .ref tc])), (ta, .inl (cI, S + 1, .inl f3)), (tb, .inl (cI, K, .inl g3)), (tc, .inl (cI, K, .inl w3)), (ar, .inl (cI, K, .inl pR)), (ac, .inl (cI, K, .inl pC)), (av, .inl (cI, K, .inl pV)), (li, .inl (cI, S, .inl l1)), (o, .inr (1, [.int (nI K), .int (nI C), .int (nI R), .ref sp, .ref su, .ref ar, .ref ac, .ref av, .int (nI np), .ref vx, .ref py, .ref li])), (vx, .inl (cI, S, .inl v1)), (py, .inl (cI, S, .inl v2))] := hD
        refine lv_iconst (v := nI 1) hx hb dX1_transpose_115 (by decide +kernel) ?_
        exact ret _ _ _ _ _ (((K, C, R, S, np), (fun i j => M0 j i), P, (fun _ => 0), fun _ => 0), ((sp, ta, tb, tc), (su, sa, sb, sc), (f3, g3, w3), (f, g, w), (pR, pC, pV), (v1, v2, l1))) dX1_transpose_116 (rfl) (⟨(an_turn_t h0).1, (an_turn_t h0).2.symm, by subst h0; exact st_turn hr hs hv1 hv2⟩) (hP.sub [12, 4, 5, 6, 7, 0, 1, 2, 3, 8, 9, 10, 13, 14, 11] rfl) (hD.sub [12, 4, 5, 6, 7, 0, 1, 2, 3, 8, 9, 10, 13, 14, 11] (by decide) rfl) hS
      | succ k11 ih11 =>
        intro j f3 g3 w3 l1 H locs ls hk11 hs hP hD hS hl
        have hj0 : j < C := by omega
        refine lv_iload_n hx hb dX1_transpose_11 rfl (lv_at hl 0 rfl) ?_
        refine lv_aload_n hx hb dX1_transpose_12 rfl (lv_at hl 1 rfl) ?_
        refine va_get (D := D) (ci := 1) (v := .int (nI C)) (C := RX1) (T := TX1) (N := 12) hx hb hts hin1 hown hK hP 0 rfl rfl 2 (by decide) f17 (fun _ h9 => h9) rfl dX1_transpose_13 ?_
        refine rv_ge_f (tgt := 77) hx hb dX1_transpose_16 (by decide) (by omega) (by omega) ?_
        refine lv_aload_n hx hb dX1_transpose_19 rfl (lv_at hl 1 rfl) ?_
        refine va_get (D := D) (ci := 1) (v := .ref li) (C := RX1) (T := TX1) (N := 12) hx hb hts hin1 hown hK hP 0 rfl rfl 11 (by decide) f59 (fun _ h9 => h9) rfl dX1_transpose_20 ?_
        refine lv_iconst (v := nI 0) hx hb dX1_transpose_23 (by decide +kernel) ?_
        refine rs_cVS (As := [.ref li, .int (nI 0)]) (rest := []) (WR := [(o, .inr (1, [.int (nI K), .int (nI R), .int (nI C), .ref su, .ref sp, .ref ar, .ref ac, .ref av, .int (nI np), .ref vx, .ref py, .ref li])), (su, .inr (0, [.ref sa, .ref sb, .ref sc])), (sa, .inl (cI, S + 1, .inl f)), (sb, .inl (cI, K, .inl g)), (sc, .inl (cI, K, .inl w)), (sp, .inr (0, [.ref ta, .ref tb, .ref tc])), (ta, .inl (cI, S + 1, .inl f3)), (tb, .inl (cI, K, .inl g3)), (tc, .inl (cI, K, .inl w3)), (ar, .inl (cI, K, .inl pR)), (ac, .inl (cI, K, .inl pC)), (av, .inl (cI, K, .inl pV)), (vx, .inl (cI, S, .inl vX)), (py, .inl (cI, S, .inl pY))]) ⟨hx, hb, hml, hown, hts⟩ hl.1 (c_fill l D cI li S l1 (nI 0) (by omega)) (va_cwS 2 hts gX1_transpose_J7_fill_53178 rfl rfl rfl (by decide +kernel) ⟨Nat.le_of_ble_eq_true rfl, Nat.le_of_ble_eq_true rfl⟩) hK hP hD hS hA [14] [0, 1, 2, 3, 4, 5, 6, 7, 8, 9, 10, 11, 12, 13] rfl rfl (by decide) (by decide) (by decide) rfl rfl (Nat.le_of_ble_eq_true rfl) dX1_transpose_24 (Nat.le_of_ble_eq_true rfl) (Nat.le_of_ble_eq_true rfl) (fun u H locs hu hP hD hS => ?_)
        obtain ⟨u1, e9⟩ : ∃ z, z = u := ⟨_, rfl⟩
        subst e9
        have hu1 := hu
        have hP : va_P D vwCl [(o, .inr (1, [.int (nI K), .int (nI R), .int (nI C), .ref su, .ref sp, .ref ar, .ref ac, .ref av, .int (nI np), .ref vx, .ref py, .ref li])), (su, .inr (0, [.ref sa, .ref sb, .ref sc])), (sa, .inl (cI, S + 1, .inl f)), (sb, .inl (cI, K, .inl g)), (sc, .inl (cI, K, .inl w)), (sp, .inr (0, [.ref ta, .ref tb, .ref tc])), (ta, .inl (cI, S + 1, .inl f3)), (tb, .inl (cI, K, .inl g3)), (tc, .inl (cI, K, .inl w3)), (ar, .inl (cI, K, .inl pR)), (ac, .inl (cI, K, .inl pC)), (av, .inl (cI, K, .inl pV)), (vx, .inl (cI, S, .inl vX)), (py, .inl (cI, S, .inl pY)), (li, .inl (cI, S, .inl u1))] H := hP
        have hD : va_D A [(o, .inr (1, [.int (nI K), .int (nI R), .int (nI C), .ref su, .ref sp, .ref ar, .ref ac, .ref av, .int (nI np), .ref vx, .ref py, .ref li])), (su, .inr (0, [.ref sa, .ref sb, .ref sc])), (sa, .inl (cI, S + 1, .inl f)), (sb, .inl (cI, K, .inl g)), (sc, .inl (cI, K, .inl w)), (sp, .inr (0, [.ref ta, .ref tb, .ref tc])), (ta, .inl (cI, S + 1, .inl f3)), (tb, .inl (cI, K, .inl g3)), (tc, .inl (cI, K, .inl w3)), (ar, .inl (cI, K, .inl pR)), (ac, .inl (cI, K, .inl pC)), (av, .inl (cI, K, .inl pV)), (vx, .inl (cI, S, .inl vX)), (py, .inl (cI, S, .inl pY)), (li, .inl (cI, S, .inl u1))] := hD
        refine lv_iconst (v := nI 0) hx hb dX1_transpose_27 (by decide +kernel) ?_
        refine lv_istore_n (lv' := [(2, .int (nI 0)), (1, .int (nI j)), (0, .ref o)]) hx hb dX1_transpose_28 rfl hl (by decide) rfl (fun ls hl => ?_)
        have L29 : ∀ (k29 : Nat) (i : Nat) (l2 : Nat → Int32) (H : Heap) (locs : List Loc) (ls : Array Slot), i + k29 = R → (∀ t, t < i → l2 t = M0 t j) → (∀ t, i ≤ t → t < S → l2 t = 0) → va_P D vwCl [(o, .inr (1, [.int (nI K), .int (nI R), .int (nI C), .ref su, .ref sp, .ref ar, .ref ac, .ref av, .int (nI np), .ref vx, .ref py, .ref li])), (su, .inr (0, [.ref sa, .ref sb, .ref sc])), (sa, .inl (cI, S + 1, .inl f)), (sb, .inl (cI, K, .inl g)), (sc, .inl (cI, K, .inl w)), (sp, .inr (0, [.ref ta, .ref tb, .ref tc])), (ta, .inl (cI, S + 1, .inl f3)), (tb, .inl (cI, K, .inl g3)), (tc, .inl (cI, K, .inl w3)), (ar, .inl (cI, K, .inl pR)), (ac, .inl (cI, K, .inl pC)), (av, .inl (cI, K, .inl pV)), (vx, .inl (cI, S, .inl vX)), (py, .inl (cI, S, .inl pY)), (li, .inl (cI, S, .inl l2))] H → va_D A [(o, .inr (1, [.int (nI K), .int (nI R), .int (nI C), .ref su, .ref sp, .ref ar, .ref ac, .ref av, .int (nI np), .ref vx, .ref py, .ref li])), (su, .inr (0, [.ref sa, .ref sb, .ref sc])), (sa, .inl (cI, S + 1, .inl f)), (sb, .inl (cI, K, .inl g)), (sc, .inl (cI, K, .inl w)), (sp, .inr (0, [.ref ta, .ref tb, .ref tc])), (ta, .inl (cI, S + 1, .inl f3)), (tb, .inl (cI, K, .inl g3)), (tc, .inl (cI, K, .inl w3)), (ar, .inl (cI, K, .inl pR)), (ac, .inl (cI, K, .inl pC)), (av, .inl (cI, K, .inl pV)), (vx, .inl (cI, S, .inl vX)), (py, .inl (cI, S, .inl pY)), (li, .inl (cI, S, .inl l2))] → va_S A s.heap H locs → lv_has ls 3 [(2, .int (nI i)), (1, .int (nI j)), (0, .ref o)] → W p l e rm_2 s m args below meth c H locs 0 0 Q (F0 m 29 ls []) := by
          intro k29
          induction k29 with
          | zero =>
            intro i l2 H locs ls hk29 hl2 hl3 hP hD hS hl
            have hu3 : ∀ t, t < S → l2 t = (fun i j => M0 j i) j t := fun t ht => by
              rcases Nat.lt_or_ge t R with q | q
              · exact hl2 t (by omega)
              · rw [hl3 t (by omega) ht]; exact (hM t j (Or.inl q)).symm
            refine lv_iload_n hx hb dX1_transpose_29 rfl (lv_at hl 0 rfl) ?_
            refine lv_aload_n hx hb dX1_transpose_30 rfl (lv_at hl 2 rfl) ?_
            refine va_get (D := D) (ci := 1) (v := .int (nI R)) (C := RX1) (T := TX1) (N := 12) hx hb hts hin1 hown hK hP 0 rfl rfl 1 (by decide) f13 (fun _ h9 => h9) rfl dX1_transpose_31 ?_
            refine rv_ge_t (tgt := 58) hx hb dX1_transpose_34 (by decide) (by omega) (by omega) ?_
            refine lv_aload_n hx hb dX1_transpose_58 rfl (lv_at hl 2 rfl) ?_
            refine va_get (D := D) (ci := 1) (v := .ref sp) (C := RX1) (T := TX1) (N := 12) hx hb hts hin1 hown hK hP 0 rfl rfl 4 (by decide) f37 (fun _ h9 => h9) rfl dX1_transpose_59 ?_
            refine lv_iload_n hx hb dX1_transpose_62 rfl (lv_at hl 1 rfl) ?_
            refine lv_aload_n hx hb dX1_transpose_63 rfl (lv_at hl 2 rfl) ?_
            refine va_get (D := D) (ci := 1) (v := .ref li) (C := RX1) (T := TX1) (N := 12) hx hb hts hin1 hown hK hP 0 rfl rfl 11 (by decide) f59 (fun _ h9 => h9) rfl dX1_transpose_64 ?_
            refine rs_cI (As := [.int (nI j), .ref li]) (rest := []) (WR := [(o, .inr (1, [.int (nI K), .int (nI R), .int (nI C), .ref su, .ref sp, .ref ar, .ref ac, .ref av, .int (nI np), .ref vx, .ref py, .ref li])), (su, .inr (0, [.ref sa, .ref sb, .ref sc])), (sa, .inl (cI, S + 1, .inl f)), (sb, .inl (cI, K, .inl g)), (sc, .inl (cI, K, .inl w)), (ar, .inl (cI, K, .inl pR)), (ac, .inl (cI, K, .inl pC)), (av, .inl (cI, K, .inl pV)), (vx, .inl (cI, S, .inl vX)), (py, .inl (cI, S, .inl pY))]) ⟨hx, hb, hml, hown, hts⟩ hl.1 (c_putRow l D cI sp ta tb tc (S + 1) K f3 g3 w3 li S l2 j (ms_sc (fun i j => M0 j i) S j) (by omega) (by omega) (by omega) (by omega) (hs.1 j (Nat.le_refl _)) hs.2.1) (cwV 2 hts gX1_transpose_X0_putRow rfl rfl rfl (by decide +kernel) ⟨Nat.le_of_ble_eq_true rfl, Nat.le_of_ble_eq_true rfl⟩) hK hP hD hS hA [5, 6, 7, 8, 14] [0, 1, 2, 3, 4, 9, 10, 11, 12, 13] rfl rfl (by decide) (by decide) (by decide) rfl rfl rfl rfl (Nat.le_of_ble_eq_true rfl) dX1_transpose_67 (Nat.le_of_ble_eq_true rfl) (Nat.le_of_ble_eq_true rfl) (fun r u H locs hu hP hD hS => ?_)
            obtain ⟨f4, g4, w4⟩ := u
            have hP : va_P D vwCl [(o, .inr (1, [.int (nI K), .int (nI R), .int (nI C), .ref su, .ref sp, .ref ar, .ref ac, .ref av, .int (nI np), .ref vx, .ref py, .ref li])), (su, .inr (0, [.ref sa, .ref sb, .ref sc])), (sa, .inl (cI, S + 1, .inl f)), (sb, .inl (cI, K, .inl g)), (sc, .inl (cI, K, .inl w)), (ar, .inl (cI, K, .inl pR)), (ac, .inl (cI, K, .inl pC)), (av, .inl (cI, K, .inl pV)), (vx, .inl (cI, S, .inl vX)), (py, .inl (cI, S, .inl pY)), (sp, .inr (0, [.ref ta, .ref tb, .ref tc])), (ta, .inl (cI, S + 1, .inl f4)), (tb, .inl (cI, K, .inl g4)), (tc, .inl (cI, K, .inl w4)), (li, .inl (cI, S, .inl l2))] H := hP
            have hD : va_D A [(o, .inr (1, [.int (nI K), .int (nI R), .int (nI C), .ref su, .ref sp, .ref ar, .ref ac, .ref av, .int (nI np), .ref vx, .ref py, .ref li])), (su, .inr (0, [.ref sa, .ref sb, .ref sc])), (sa, .inl (cI, S + 1, .inl f)), (sb, .inl (cI, K, .inl g)), (sc, .inl (cI, K, .inl w)), (ar, .inl (cI, K, .inl pR)), (ac, .inl (cI, K, .inl pC)), (av, .inl (cI, K, .inl pV)), (vx, .inl (cI, S, .inl vX)), (py, .inl (cI, S, .inl pY)), (sp, .inr (0, [.ref ta, .ref tb, .ref tc])), (ta, .inl (cI, S + 1, .inl f4)), (tb, .inl (cI, K, .inl g4)), (tc, .inl (cI, K, .inl w4)), (li, .inl (cI, S, .inl l2))] := hD
            obtain ⟨k1, k2, k3, k4, k5⟩ := hu.resolve_right (fun q => ms_sc_over (R := C) (show j < C by omega) hu3 q.1 (by rw [htn]; exact hsup.2.1))
            refine lv_pop hx hb dX1_transpose_70 rfl ?_
            refine lv_iinc (v := nI (j + 1)) (lv' := [(1, .int (nI (j + 1))), (2, .int (nI i)), (0, .ref o)]) hx hb dX1_transpose_71 hl (k := 1) rfl (rv_inc _) (by decide) rfl (fun ls hl => ?_)
            refine lv_goto (tgt := 11) hx hb dX1_transpose_74 (by decide) ?_
            exact ih11 (j + 1) f4 g4 w4 l2 _ _ _ (by omega) (ms_supstep hs hu3 k1 k3 k4 k5) (hP.sub [0, 1, 2, 3, 4, 10, 11, 12, 13, 5, 6, 7, 8, 9, 14] rfl) (hD.sub [0, 1, 2, 3, 4, 10, 11, 12, 13, 5, 6, 7, 8, 9, 14] (by decide) rfl) hS (lv_sub hl [0, 2] rfl)
          | succ k29 ih29 =>
            intro i l2 H locs ls hk29 hl2 hl3 hP hD hS hl
            have hi0 : i < R := by omega
            obtain ⟨e0, e1, h01, h1k, e2⟩ := ms_Sq hsup hi0
            refine lv_iload_n hx hb dX1_transpose_29 rfl (lv_at hl 0 rfl) ?_
            refine lv_aload_n hx hb dX1_transpose_30 rfl (lv_at hl 2 rfl) ?_
            refine va_get (D := D) (ci := 1) (v := .int (nI R)) (C := RX1) (T := TX1) (N := 12) hx hb hts hin1 hown hK hP 0 rfl rfl 1 (by decide) f13 (fun _ h9 => h9) rfl dX1_transpose_31 ?_
            refine rv_ge_f (tgt := 58) hx hb dX1_transpose_34 (by decide) (by omega) (by omega) ?_
            refine lv_aload_n hx hb dX1_transpose_37 rfl (lv_at hl 2 rfl) ?_
            refine va_get (D := D) (ci := 1) (v := .ref li) (C := RX1) (T := TX1) (N := 12) hx hb hts hin1 hown hK hP 0 rfl rfl 11 (by decide) f59 (fun _ h9 => h9) rfl dX1_transpose_38 ?_
            refine lv_iload_n hx hb dX1_transpose_41 rfl (lv_at hl 0 rfl) ?_
            refine lv_aload_n hx hb dX1_transpose_42 rfl (lv_at hl 2 rfl) ?_
            refine va_get (D := D) (ci := 1) (v := .ref su) (C := RX1) (T := TX1) (N := 12) hx hb hts hin1 hown hK hP 0 rfl rfl 3 (by decide) f33 (fun _ h9 => h9) rfl dX1_transpose_43 ?_
            refine lv_iload_n hx hb dX1_transpose_46 rfl (lv_at hl 0 rfl) ?_
            refine lv_iload_n hx hb dX1_transpose_47 rfl (lv_at hl 1 rfl) ?_
            refine rs_cR (As := [.int (nI i), .int (nI j)]) (rest := [.int (nI i), .ref li]) ⟨hx, hb, hml, hown, hts⟩ hl.1 (c_entry l D cI su sa sb sc (S + 1) K f g w i (ms_sc M0 S i) (ms_sc M0 S (i + 1)) (nI j) (by omega) (by omega) (by omega) e0 e1 h01 h1k) (cwV 2 hts gX1_transpose_X0_entry rfl rfl rfl (by decide +kernel) ⟨Nat.le_of_ble_eq_true rfl, Nat.le_of_ble_eq_true rfl⟩) hK hP [1, 2, 3, 4] rfl rfl rfl rfl rfl (Nat.le_of_ble_eq_true rfl) dX1_transpose_48 (Nat.le_of_ble_eq_true rfl) (Nat.le_of_ble_eq_true rfl) (fun r hv => ?_)
            have hv : r = M0 i j := ms_entry hsup (by omega) hi0 (by omega) hv
            subst hv
            refine rv_iast hx hb hK hP hD hS 14 rfl rfl (by omega) (by omega) dX1_transpose_51 (fun H locs hP hD hS => ?_)
            have hP : va_P D vwCl [(o, .inr (1, [.int (nI K), .int (nI R), .int (nI C), .ref su, .ref sp, .ref ar, .ref ac, .ref av, .int (nI np), .ref vx, .ref py, .ref li])), (su, .inr (0, [.ref sa, .ref sb, .ref sc])), (sa, .inl (cI, S + 1, .inl f)), (sb, .inl (cI, K, .inl g)), (sc, .inl (cI, K, .inl w)), (sp, .inr (0, [.ref ta, .ref tb, .ref tc])), (ta, .inl (cI, S + 1, .inl f3)), (tb, .inl (cI, K, .inl g3)), (tc, .inl (cI, K, .inl w3)), (ar, .inl (cI, K, .inl pR)), (ac, .inl (cI, K, .inl pC)), (av, .inl (cI, K, .inl pV)), (vx, .inl (cI, S, .inl vX)), (py, .inl (cI, S, .inl pY)), (li, .inl (cI, S, .inl (upd l2 i (M0 i j))))] H := hP
            have hD : va_D A [(o, .inr (1, [.int (nI K), .int (nI R), .int (nI C), .ref su, .ref sp, .ref ar, .ref ac, .ref av, .int (nI np), .ref vx, .ref py, .ref li])), (su, .inr (0, [.ref sa, .ref sb, .ref sc])), (sa, .inl (cI, S + 1, .inl f)), (sb, .inl (cI, K, .inl g)), (sc, .inl (cI, K, .inl w)), (sp, .inr (0, [.ref ta, .ref tb, .ref tc])), (ta, .inl (cI, S + 1, .inl f3)), (tb, .inl (cI, K, .inl g3)), (tc, .inl (cI, K, .inl w3)), (ar, .inl (cI, K, .inl pR)), (ac, .inl (cI, K, .inl pC)), (av, .inl (cI, K, .inl pV)), (vx, .inl (cI, S, .inl vX)), (py, .inl (cI, S, .inl pY)), (li, .inl (cI, S, .inl (upd l2 i (M0 i j))))] := hD
            refine lv_iinc (v := nI (i + 1)) (lv' := [(2, .int (nI (i + 1))), (1, .int (nI j)), (0, .ref o)]) hx hb dX1_transpose_52 hl (k := 0) rfl (rv_inc _) (by decide) rfl (fun ls hl => ?_)
            refine lv_goto (tgt := 29) hx hb dX1_transpose_55 (by decide) ?_
            exact ih29 (i + 1) (upd l2 i (M0 i j)) _ _ _ (by omega) (ms_updstep (F := fun t => M0 t j) hl2) (fun t h1 h2 => by rw [pk_un (by omega)]; exact hl3 t (by omega) h2) (hP.sub [0, 1, 2, 3, 4, 5, 6, 7, 8, 9, 10, 11, 12, 13, 14] rfl) (hD.sub [0, 1, 2, 3, 4, 5, 6, 7, 8, 9, 10, 11, 12, 13, 14] (by decide) rfl) hS (lv_sub hl [0, 1, 2] rfl)
        exact L29 _ 0 u1 _ _ _ (Nat.zero_add _) (fun t ht => absurd ht (Nat.not_lt_zero t)) (fun t _ ht => (hu1 t ht).trans ms_nz) (hP.sub [0, 1, 2, 3, 4, 5, 6, 7, 8, 9, 10, 11, 12, 13, 14] rfl) (hD.sub [0, 1, 2, 3, 4, 5, 6, 7, 8, 9, 10, 11, 12, 13, 14] (by decide) rfl) hS (lv_sub hl [0, 1, 2] rfl)
    exact L11 _ 0 f2 g2 w2 lI _ _ _ (Nat.zero_add _) (ms_sup0 hf2) (hP.sub [0, 1, 2, 3, 4, 5, 6, 7, 8, 9, 10, 11, 12, 13, 14] rfl) (hD.sub [0, 1, 2, 3, 4, 5, 6, 7, 8, 9, 10, 11, 12, 13, 14] (by decide) rfl) hS (lv_sub hl [0, 1] rfl)
  · have h0 : ¬ np = 0 := fun q => h1 (by rw [q]; decide)
    refine lv_iconst (v := nI 0) hx hb dX1_transpose_7 (by decide +kernel) ?_
    exact ret _ _ _ _ _ (((K, R, C, S, np), M0, P, X, Y), ((su, sa, sb, sc), (sp, ta, tb, tc), (f, g, w), (f2, g2, w2), (pR, pC, pV), (vX, pY, lI))) dX1_transpose_8 (rfl) (⟨(an_turn_f h0).1, (an_turn_f h0).2.symm, hr⟩) (hP.sub [0, 1, 2, 3, 4, 5, 6, 7, 8, 9, 10, 11, 12, 13, 14] rfl) (hD.sub [0, 1, 2, 3, 4, 5, 6, 7, 8, 9, 10, 11, 12, 13, 14] (by decide) rfl) hS
