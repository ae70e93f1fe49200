set_option maxHeartbeats 4000000 in
set_option maxRecDepth 100000 in
theorem c_isWithin (l : Launch) (D : va_G) (cI : ClassId) (i : Int32) (N : Nat) (hN : N < 2 ^ 31) : MetR l yX1_isWithin wsX1_isWithin rm_0 D [(cI, .int)] [.int i, .int (nI N)] [] (fun r => r = ms_bI (ms_in i N)) := by
  refine rs_R (cc := cX1_isWithin) (maxL := 2) (rty := .boolean) (by decide) rfl (Nat.le_of_ble_eq_true rfl) ?_
  intro p e s m args below meth c Q ls hx hb hml hown hts hP hK hl ret
  have hl : lv_has ls 2 [(0, .int i), (1, .int (nI N))] := hl
  have hP : va_P D vwCl [] s.heap := hP
  refine lv_iload_n hx hb dX1_isWithin_0 rfl (lv_at hl 0 rfl) ?_
  refine lv_if_lt (tgt := 13) hx hb dX1_isWithin_1 (by decide) (fun h1 => ?_) (fun h1 => ?_)
  · refine lv_iconst (v := nI 0) hx hb dX1_isWithin_13 (by decide +kernel) ?_
    exact ret _ _ _ dX1_isWithin_14 (rfl) (ms_bI_f (ms_in_f1 h1))
  · refine lv_iload_n hx hb dX1_isWithin_4 rfl (lv_at hl 0 rfl) ?_
    refine lv_iload_n hx hb dX1_isWithin_5 rfl (lv_at hl 1 rfl) ?_
    refine lv_icmp_ge (tgt := 13) hx hb dX1_isWithin_6 (by decide) (fun h2 => ?_) (fun h2 => ?_)
    · refine lv_iconst (v := nI 0) hx hb dX1_isWithin_13 (by decide +kernel) ?_
      exact ret _ _ _ dX1_isWithin_14 (rfl) (ms_bI_f (ms_in_f2 hN h2))
    · refine lv_iconst (v := nI 1) hx hb dX1_isWithin_9 (by decide +kernel) ?_
      refine lv_goto (tgt := 14) hx hb dX1_isWithin_10 (by decide) ?_
      exact ret _ _ _ dX1_isWithin_14 (rfl) (ms_bI_t (ms_in_t hN h1 h2))

set_option maxHeartbeats 4000000 in
set_option maxRecDepth 100000 in
theorem c_in (l : Launch) (D : va_G) (cI : ClassId) (v : Int32) (h : Nat) (hh : h + 1 < 2 ^ 31) : MetR l yX2_in wsX2_in rm_0 D [(cI, .int)] [.int v, .int (nI 0), .int (nI h)] [] (fun r => r = ms_bI (ms_in v (h + 1))) := by
  refine rs_R (cc := cX2_in) (maxL := 3) (rty := .boolean) (by decide) rfl (Nat.le_of_ble_eq_true rfl) ?_
  intro p e s m args below meth c Q ls hx hb hml hown hts hP hK hl ret
  have hl : lv_has ls 3 [(0, .int v), (1, .int (nI 0)), (2, .int (nI h))] := hl
  have hP : va_P D vwCl [] s.heap := hP
  refine lv_iload_n hx hb dX2_in_0 rfl (lv_at hl 0 rfl) ?_
  refine lv_iload_n hx hb dX2_in_1 rfl (lv_at hl 1 rfl) ?_
  refine lv_icmp_lt (tgt := 14) hx hb dX2_in_2 (by decide) (fun h1 => ?_) (fun h1 => ?_)
  · refine lv_iconst (v := nI 0) hx hb dX2_in_14 (by decide +kernel) ?_
    exact ret _ _ _ dX2_in_15 (rfl) (ms_bI_f (ms_in2_f1 h1))
  · refine lv_iload_n hx hb dX2_in_5 rfl (lv_at hl 0 rfl) ?_
    refine lv_iload_n hx hb dX2_in_6 rfl (lv_at hl 2 rfl) ?_
    refine lv_icmp_gt (tgt := 14) hx hb dX2_in_7 (by decide) (fun h2 => ?_) (fun h2 => ?_)
    · refine lv_iconst (v := nI 0) hx hb dX2_in_14 (by decide +kernel) ?_
      exact ret _ _ _ dX2_in_15 (rfl) (ms_bI_f (ms_in2_f2 hh h2))
    · refine lv_iconst (v := nI 1) hx hb dX2_in_10 (by decide +kernel) ?_
      refine lv_goto (tgt := 15) hx hb dX2_in_11 (by decide) ?_
      exact ret _ _ _ dX2_in_15 (rfl) (ms_bI_t (ms_in2_t hh h1 h2))

set_option maxHeartbeats 4000000 in
set_option maxRecDepth 100000 in
theorem c_nearest (l : Launch) (D : va_G) (cI : ClassId) (x : Int32) (N : Nat) (h1 : 1 ≤ N) (hN : N < 2 ^ 31) : MetR l yX1_nearest wsX1_nearest rm_1 D [(cI, .int)] [.int x, .int (nI N)] [] (fun r => r = nI (ms_cl x N)) := by
  refine rs_R (cc := cX1_nearest) (maxL := 2) (rty := .int) (by decide) rfl (Nat.le_of_ble_eq_true rfl) ?_
  intro p e s m args below meth c Q ls hx hb hml hown hts hP hK hl ret
  have hl : lv_has ls 2 [(0, .int x), (1, .int (nI N))] := hl
  have hP : va_P D vwCl [] s.heap := hP
  refine lv_iconst (v := nI 1) hx hb dX1_nearest_0 (by decide +kernel) ?_
  refine lv_iload_n hx hb dX1_nearest_1 rfl (lv_at hl 1 rfl) ?_
  refine lv_iload_n hx hb dX1_nearest_2 rfl (lv_at hl 0 rfl) ?_
  refine va_mmin hx hb (hml.trans hl.1.symm) hown (hts (.methodLink RX1 106 Lib.Math.min.name) (by decide +kernel)) (hts (.static Lib.Math.min.name) (by decide +kernel)) (hts (.initialized "java/lang/Math") (by decide +kernel)) (hts (.code Lib.Math.min.name Lib.Math.min.code 2 (some .int)) (by decide +kernel)) (Nat.le_of_ble_eq_true rfl) (Nat.le_of_ble_eq_true rfl) (Nat.le_of_ble_eq_true rfl) (Nat.le_of_ble_eq_true rfl) dX1_nearest_3 ?_
  refine va_mmax hx hb (hml.trans hl.1.symm) hown (hts (.methodLink RX1 23 Lib.Math.max.name) (by decide +kernel)) (hts (.static Lib.Math.max.name) (by decide +kernel)) (hts (.initialized "java/lang/Math") (by decide +kernel)) (hts (.code Lib.Math.max.name Lib.Math.max.code 2 (some .int)) (by decide +kernel)) (Nat.le_of_ble_eq_true rfl) (Nat.le_of_ble_eq_true rfl) (Nat.le_of_ble_eq_true rfl) (Nat.le_of_ble_eq_true rfl) dX1_nearest_6 ?_
  exact ret _ _ _ dX1_nearest_9 (rfl) (ms_near h1 hN)

set_option maxHeartbeats 4000000 in
set_option maxRecDepth 100000 in
theorem c_within (l : Launch) (D : va_G) (cI : ClassId) (x : Int32) (N : Nat) (hN : N < 2 ^ 31) : MetR l yX2_within wsX2_within rm_0 D [(cI, .int)] [.int x, .int (nI N)] [] (fun r => r = nI (ms_cl x N)) := by
  refine rs_R (cc := cX2_within) (maxL := 2) (rty := .int) (by decide) rfl (Nat.le_of_ble_eq_true rfl) ?_
  intro p e s m args below meth c Q ls hx hb hml hown hts hP hK hl ret
  have hl : lv_has ls 2 [(0, .int x), (1, .int (nI N))] := hl
  have hP : va_P D vwCl [] s.heap := hP
  refine lv_iload_n hx hb dX2_within_0 rfl (lv_at hl 0 rfl) ?_
  refine lv_iconst (v := nI 1) hx hb dX2_within_1 (by decide +kernel) ?_
  refine lv_icmp_ge (tgt := 9) hx hb dX2_within_2 (by decide) (fun h1 => ?_) (fun h1 => ?_)
  · rw [ms_le, ms_n1, ms_one] at h1
    refine lv_iload_n hx hb dX2_within_9 rfl (lv_at hl 0 rfl) ?_
    refine lv_iload_n hx hb dX2_within_10 rfl (lv_at hl 1 rfl) ?_
    refine lv_icmp_le (tgt := 18) hx hb dX2_within_11 (by decide) (fun h2 => ?_) (fun h2 => ?_)
    · rw [ms_le, nI_toInt hN] at h2
      refine lv_iload_n hx hb dX2_within_18 rfl (lv_at hl 0 rfl) ?_
      exact ret _ _ _ dX2_within_19 (rfl) (ms_cl_3 hN (by omega) (by omega))
    · rw [ms_le, nI_toInt hN] at h2
      refine lv_iload_n hx hb dX2_within_14 rfl (lv_at hl 1 rfl) ?_
      refine lv_goto (tgt := 19) hx hb dX2_within_15 (by decide) ?_
      exact ret _ _ _ dX2_within_19 (rfl) (ms_cl_2 (by omega) (by omega))
  · rw [ms_le, ms_n1, ms_one] at h1
    refine lv_iconst (v := nI 1) hx hb dX2_within_5 (by decide +kernel) ?_
    refine lv_goto (tgt := 19) hx hb dX2_within_6 (by decide) ?_
    exact ret _ _ _ dX2_within_19 (rfl) (ms_cl_1 (by omega))

set_option maxHeartbeats 4000000 in
set_option maxRecDepth 100000 in
theorem c_placesAhead (l : Launch) (D : va_G) (cI : ClassId) (h a b c0 n i : Nat) (f : Nat → Int32) (hi : i < n) (hn : n < 2 ^ 31) : MetR l yX0_placesAhead wsX0_placesAhead rm_0 D [(cI, .int)] [.ref h, .int (nI i)] [(h, .inr (0, [.ref a, .ref b, .ref c0])), (a, .inl (cI, n, .inl f))] (fun r => r = f i) := by
  refine rs_R (cc := cX0_placesAhead) (maxL := 2) (rty := .int) (by decide) rfl (Nat.le_of_ble_eq_true rfl) ?_
  intro p e s m args below meth c Q ls hx hb hml hown hts hP hK hl ret
  have f7 := hts (.fieldLink RX0 7 "RowSparse$Support" "starts" "[I") (by decide +kernel)
  have hin0 : ∀ w ∈ u_ws RX0 TX0 3, w ∈ wsX0_placesAhead := by decide +kernel
  have hl : lv_has ls 2 [(0, .ref h), (1, .int (nI i))] := hl
  have hP : va_P D vwCl [(h, .inr (0, [.ref a, .ref b, .ref c0])), (a, .inl (cI, n, .inl f))] s.heap := hP
  refine lv_aload_n hx hb dX0_placesAhead_0 rfl (lv_at hl 0 rfl) ?_
  refine va_get (D := D) (ci := 0) (v := .ref a) (C := RX0) (T := TX0) (N := 3) hx hb hts hin0 hown hK hP 0 rfl rfl 0 (by decide) f7 (fun _ h9 => h9) rfl dX0_placesAhead_1 ?_
  refine lv_iload_n hx hb dX0_placesAhead_4 rfl (lv_at hl 1 rfl) ?_
  refine rv_iald hx hb hK hP 1 rfl rfl (hi) (hn) dX0_placesAhead_5 ?_
  exact ret _ _ _ dX0_placesAhead_6 (rfl) (rfl)

set_option maxHeartbeats 4000000 in
set_option maxRecDepth 100000 in
theorem c_column (l : Launch) (D : va_G) (cI : ClassId) (h a b c0 k i : Nat) (g : Nat → Int32) (hi : i < k) (hk : k < 2 ^ 31) : MetR l yX0_column wsX0_column rm_0 D [(cI, .int)] [.ref h, .int (nI i)] [(h, .inr (0, [.ref a, .ref b, .ref c0])), (b, .inl (cI, k, .inl g))] (fun r => r = g i) := by
  refine rs_R (cc := cX0_column) (maxL := 2) (rty := .int) (by decide) rfl (Nat.le_of_ble_eq_true rfl) ?_
  intro p e s m args below meth c Q ls hx hb hml hown hts hP hK hl ret
  have f13 := hts (.fieldLink RX0 13 "RowSparse$Support" "columns" "[I") (by decide +kernel)
  have hin0 : ∀ w ∈ u_ws RX0 TX0 3, w ∈ wsX0_column := by decide +kernel
  have hl : lv_has ls 2 [(0, .ref h), (1, .int (nI i))] := hl
  have hP : va_P D vwCl [(h, .inr (0, [.ref a, .ref b, .ref c0])), (b, .inl (cI, k, .inl g))] s.heap := hP
  refine lv_aload_n hx hb dX0_column_0 rfl (lv_at hl 0 rfl) ?_
  refine va_get (D := D) (ci := 0) (v := .ref b) (C := RX0) (T := TX0) (N := 3) hx hb hts hin0 hown hK hP 0 rfl rfl 1 (by decide) f13 (fun _ h9 => h9) rfl dX0_column_1 ?_
  refine lv_iload_n hx hb dX0_column_4 rfl (lv_at hl 1 rfl) ?_
  refine rv_iald hx hb hK hP 1 rfl rfl (hi) (hk) dX0_column_5 ?_
  exact ret _ _ _ dX0_column_6 (rfl) (rfl)

set_option maxHeartbeats 4000000 in
set_option maxRecDepth 100000 in
theorem c_entry (l : Launch) (D : va_G) (cI : ClassId) (h a b c0 n k : Nat) (f g w : Nat → Int32) (i q0 q1 : Nat) (col : Int32) (hi : i + 1 < n) (hn : n < 2 ^ 31) (hk : k < 2 ^ 31) (e0 : f i = nI q0) (e1 : f (i + 1) = nI q1) (h01 : q0 ≤ q1) (h1k : q1 ≤ k) : MetR l yX0_entry wsX0_entry rm_0 D [(cI, .int)] [.ref h, .int (nI i), .int col] [(h, .inr (0, [.ref a, .ref b, .ref c0])), (a, .inl (cI, n, .inl f)), (b, .inl (cI, k, .inl g)), (c0, .inl (cI, k, .inl w))] (fun r => (∃ q, q0 ≤ q ∧ q < q1 ∧ g q = col ∧ r = w q) ∨ (r = 0 ∧ ∀ q, q0 ≤ q → q < q1 → ¬ g q = col)) := by
  refine rs_R (cc := cX0_entry) (maxL := 5) (rty := .int) (by decide) rfl (Nat.le_of_ble_eq_true rfl) ?_
  intro p e s m args below meth c Q ls hx hb hml hown hts hP hK hl ret
  have f7 := hts (.fieldLink RX0 7 "RowSparse$Support" "starts" "[I") (by decide +kernel)
  have f13 := hts (.fieldLink RX0 13 "RowSparse$Support" "columns" "[I") (by decide +kernel)
  have f16 := hts (.fieldLink RX0 16 "RowSparse$Support" "values" "[I") (by decide +kernel)
  have hin0 : ∀ w ∈ u_ws RX0 TX0 3, w ∈ wsX0_entry := by decide +kernel
  have hl : lv_has ls 5 [(0, .ref h), (1, .int (nI i)), (2, .int col)] := hl
  have hP : va_P D vwCl [(h, .inr (0, [.ref a, .ref b, .ref c0])), (a, .inl (cI, n, .inl f)), (b, .inl (cI, k, .inl g)), (c0, .inl (cI, k, .inl w))] s.heap := hP
  refine lv_aload_n hx hb dX0_entry_0 rfl (lv_at hl 0 rfl) ?_
  refine va_get (D := D) (ci := 0) (v := .ref a) (C := RX0) (T := TX0) (N := 3) hx hb hts hin0 hown hK hP 0 rfl rfl 0 (by decide) f7 (fun _ h9 => h9) rfl dX0_entry_1 ?_
  refine lv_iload_n hx hb dX0_entry_4 rfl (lv_at hl 1 rfl) ?_
  refine lv_iconst (v := nI 1) hx hb dX0_entry_5 (by decide +kernel) ?_
  refine rv_iadd hx hb dX0_entry_6 ?_
  refine rv_iald hx hb hK hP 1 rfl rfl (hi) (hn) dX0_entry_7 ?_
  refine rv_top (e1) ?_
  refine lv_istore_n (lv' := [(3, .int (nI q1)), (0, .ref h), (1, .int (nI i)), (2, .int col)]) hx hb dX0_entry_8 rfl hl (by decide) rfl (fun ls hl => ?_)
  refine lv_aload_n hx hb dX0_entry_9 rfl (lv_at hl 1 rfl) ?_
  refine va_get (D := D) (ci := 0) (v := .ref a) (C := RX0) (T := TX0) (N := 3) hx hb hts hin0 hown hK hP 0 rfl rfl 0 (by decide) f7 (fun _ h9 => h9) rfl dX0_entry_10 ?_
  refine lv_iload_n hx hb dX0_entry_13 rfl (lv_at hl 2 rfl) ?_
  refine rv_iald hx hb hK hP 1 rfl rfl (by omega) (by omega) dX0_entry_14 ?_
  refine rv_top (e0) ?_
  refine lv_istore (lv' := [(4, .int (nI q0)), (3, .int (nI q1)), (0, .ref h), (1, .int (nI i)), (2, .int col)]) hx hb dX0_entry_15 hl (by decide) rfl (fun ls hl => ?_)
  have L17 : ∀ (k17 : Nat) (q : Nat) (ls : Array Slot), q + k17 = q1 → q0 ≤ q → (∀ z, q0 ≤ z → z < q → ¬ g z = col) → lv_has ls 5 [(4, .int (nI q)), (3, .int (nI q1)), (0, .ref h), (1, .int (nI i)), (2, .int col)] → W p l e rm_0 s m args below meth c s.heap [] 0 0 Q (F0 m 17 ls []) := by
    intro k17
    induction k17 with
    | zero =>
      intro q ls hk17 hq0 hno hl
      refine lv_iload hx hb dX0_entry_17 (lv_at hl 0 rfl) ?_
      refine lv_iload_n hx hb dX0_entry_19 rfl (lv_at hl 1 rfl) ?_
      refine rv_ge_t (tgt := 48) hx hb dX0_entry_20 (by decide) (by omega) (by omega) ?_
      refine lv_iconst (v := nI 0) hx hb dX0_entry_48 (by decide +kernel) ?_
      exact ret _ _ _ dX0_entry_49 (rfl) (Or.inr ⟨ms_nz, fun z h1 h2 => hno z h1 (by omega)⟩)
    | succ k17 ih17 =>
      intro q ls hk17 hq0 hno hl
      refine lv_iload hx hb dX0_entry_17 (lv_at hl 0 rfl) ?_
      refine lv_iload_n hx hb dX0_entry_19 rfl (lv_at hl 1 rfl) ?_
      refine rv_ge_f (tgt := 48) hx hb dX0_entry_20 (by decide) (by omega) (by omega) ?_
      refine lv_aload_n hx hb dX0_entry_23 rfl (lv_at hl 2 rfl) ?_
      refine va_get (D := D) (ci := 0) (v := .ref b) (C := RX0) (T := TX0) (N := 3) hx hb hts hin0 hown hK hP 0 rfl rfl 1 (by decide) f13 (fun _ h9 => h9) rfl dX0_entry_24 ?_
      refine lv_iload hx hb dX0_entry_27 (lv_at hl 0 rfl) ?_
      refine rv_iald hx hb hK hP 2 rfl rfl (by omega) (by omega) dX0_entry_29 ?_
      refine lv_iload_n hx hb dX0_entry_30 rfl (lv_at hl 4 rfl) ?_
      refine lv_icmp_ne (tgt := 42) hx hb dX0_entry_31 (by decide) (fun hne => ?_) (fun hne => ?_)
      · refine lv_iinc (v := nI (q + 1)) (lv' := [(4, .int (nI (q + 1))), (3, .int (nI q1)), (0, .ref h), (1, .int (nI i)), (2, .int col)]) hx hb dX0_entry_42 hl (k := 0) rfl (rv_inc _) (by decide) rfl (fun ls hl => ?_)
        refine lv_goto (tgt := 17) hx hb dX0_entry_45 (by decide) ?_
        exact ih17 (q + 1) _ (by omega) (by omega) (fun z h1 h2 => by
                    rcases Nat.lt_or_ge z q with h | h
                    · exact hno z h1 h
                    · have e9 : z = q := by omega
                      subst e9
                      exact hne) (lv_sub hl [0, 1, 2, 3, 4] rfl)
      · refine lv_aload_n hx hb dX0_entry_34 rfl (lv_at hl 2 rfl) ?_
        refine va_get (D := D) (ci := 0) (v := .ref c0) (C := RX0) (T := TX0) (N := 3) hx hb hts hin0 hown hK hP 0 rfl rfl 2 (by decide) f16 (fun _ h9 => h9) rfl dX0_entry_35 ?_
        refine lv_iload hx hb dX0_entry_38 (lv_at hl 0 rfl) ?_
        refine rv_iald hx hb hK hP 3 rfl rfl (by omega) (by omega) dX0_entry_40 ?_
        exact ret _ _ _ dX0_entry_41 (rfl) (Or.inl ⟨q, hq0, by omega, hne, rfl⟩)
  exact L17 _ q0 _ (Nat.add_sub_cancel' h01) (Nat.le_refl _) (fun z h1 h2 => absurd h1 (by omega)) (lv_sub hl [0, 1, 2, 3, 4] rfl)

set_option maxHeartbeats 4000000 in
set_option maxRecDepth 100000 in
theorem c_rowTimes (l : Launch) (D : va_G) (cI : ClassId) (h a b c0 n k : Nat) (f g w : Nat → Int32) (x nx : Nat) (X : Nat → Int32) (J : Nat → Nat) (i q0 q1 : Nat) (hi : i + 1 < n) (hn : n < 2 ^ 31) (hk : k < 2 ^ 31) (e0 : f i = nI q0) (e1 : f (i + 1) = nI q1) (h01 : q0 ≤ q1) (h1k : q1 ≤ k) (hnx : nx < 2 ^ 31) (hJ : ∀ t, t < q1 - q0 → g (q0 + t) = nI (J t) ∧ J t < nx) : MetR l yX0_rowTimes wsX0_rowTimes rm_0 D [(cI, .int)] [.ref h, .int (nI i), .ref x] [(h, .inr (0, [.ref a, .ref b, .ref c0])), (a, .inl (cI, n, .inl f)), (b, .inl (cI, k, .inl g)), (c0, .inl (cI, k, .inl w)), (x, .inl (cI, nx, .inl X))] (fun r => r = ms_sm (fun t => w (q0 + t) * X (J t)) (q1 - q0)) := by
  refine rs_R (cc := cX0_rowTimes) (maxL := 6) (rty := .int) (by decide) rfl (Nat.le_of_ble_eq_true rfl) ?_
  intro p e s m args below meth c Q ls hx hb hml hown hts hP hK hl ret
  have f7 := hts (.fieldLink RX0 7 "RowSparse$Support" "starts" "[I") (by decide +kernel)
  have f13 := hts (.fieldLink RX0 13 "RowSparse$Support" "columns" "[I") (by decide +kernel)
  have f16 := hts (.fieldLink RX0 16 "RowSparse$Support" "values" "[I") (by decide +kernel)
  have hin0 : ∀ w ∈ u_ws RX0 TX0 3, w ∈ wsX0_rowTimes := by decide +kernel
  have hl : lv_has ls 6 [(0, .ref h), (1, .int (nI i)), (2, .ref x)] := hl
  have hP : va_P D vwCl [(h, .inr (0, [.ref a, .ref b, .ref c0])), (a, .inl (cI, n, .inl f)), (b, .inl (cI, k, .inl g)), (c0, .inl (cI, k, .inl w)), (x, .inl (cI, nx, .inl X))] s.heap := hP
  refine lv_iconst (v := nI 0) hx hb dX0_rowTimes_0 (by decide +kernel) ?_
  refine lv_istore_n (lv' := [(3, .int (nI 0)), (0, .ref h), (1, .int (nI i)), (2, .ref x)]) hx hb dX0_rowTimes_1 rfl hl (by decide) rfl (fun ls hl => ?_)
  refine lv_aload_n hx hb dX0_rowTimes_2 rfl (lv_at hl 1 rfl) ?_
  refine va_get (D := D) (ci := 0) (v := .ref a) (C := RX0) (T := TX0) (N := 3) hx hb hts hin0 hown hK hP 0 rfl rfl 0 (by decide) f7 (fun _ h9 => h9) rfl dX0_rowTimes_3 ?_
  refine lv_iload_n hx hb dX0_rowTimes_6 rfl (lv_at hl 2 rfl) ?_
  refine lv_iconst (v := nI 1) hx hb dX0_rowTimes_7 (by decide +kernel) ?_
  refine rv_iadd hx hb dX0_rowTimes_8 ?_
  refine rv_iald hx hb hK hP 1 rfl rfl (hi) (hn) dX0_rowTimes_9 ?_
  refine rv_top (e1) ?_
  refine lv_istore (lv' := [(4, .int (nI q1)), (3, .int (nI 0)), (0, .ref h), (1, .int (nI i)), (2, .ref x)]) hx hb dX0_rowTimes_10 hl (by decide) rfl (fun ls hl => ?_)
  refine lv_aload_n hx hb dX0_rowTimes_12 rfl (lv_at hl 2 rfl) ?_
  refine va_get (D := D) (ci := 0) (v := .ref a) (C := RX0) (T := TX0) (N := 3) hx hb hts hin0 hown hK hP 0 rfl rfl 0 (by decide) f7 (fun _ h9 => h9) rfl dX0_rowTimes_13 ?_
  refine lv_iload_n hx hb dX0_rowTimes_16 rfl (lv_at hl 3 rfl) ?_
  refine rv_iald hx hb hK hP 1 rfl rfl (by omega) (by omega) dX0_rowTimes_17 ?_
  refine rv_top (e0) ?_
  refine lv_istore (lv' := [(5, .int (nI q0)), (4, .int (nI q1)), (3, .int (nI 0)), (0, .ref h), (1, .int (nI i)), (2, .ref x)]) hx hb dX0_rowTimes_18 hl (by decide) rfl (fun ls hl => ?_)
  have L20 : ∀ (k20 : Nat) (t : Nat) (v : Int32) (ls : Array Slot), q0 + t + k20 = q1 → v = ms_sm (fun t => w (q0 + t) * X (J t)) t → lv_has ls 6 [(5, .int (nI (q0 + t))), (4, .int (nI q1)), (3, .int v), (0, .ref h), (1, .int (nI i)), (2, .ref x)] → W p l e rm_0 s m args below meth c s.heap [] 0 0 Q (F0 m 20 ls []) := by
    intro k20
    induction k20 with
    | zero =>
      intro t v ls hk20 hv hl
      refine lv_iload hx hb dX0_rowTimes_20 (lv_at hl 0 rfl) ?_
      refine lv_iload hx hb dX0_rowTimes_22 (lv_at hl 1 rfl) ?_
      refine rv_ge_t (tgt := 53) hx hb dX0_rowTimes_24 (by decide) (by omega) (by omega) ?_
      refine lv_iload_n hx hb dX0_rowTimes_53 rfl (lv_at hl 2 rfl) ?_
      exact ret _ _ _ dX0_rowTimes_54 (rfl) (by rw [hv, show q1 - q0 = t by omega])
    | succ k20 ih20 =>
      intro t v ls hk20 hv hl
      refine lv_iload hx hb dX0_rowTimes_20 (lv_at hl 0 rfl) ?_
      refine lv_iload hx hb dX0_rowTimes_22 (lv_at hl 1 rfl) ?_
      refine rv_ge_f (tgt := 53) hx hb dX0_rowTimes_24 (by decide) (by omega) (by omega) ?_
      refine lv_iload_n hx hb dX0_rowTimes_27 rfl (lv_at hl 2 rfl) ?_
      refine lv_aload_n hx hb dX0_rowTimes_28 rfl (lv_at hl 3 rfl) ?_
      refine va_get (D := D) (ci := 0) (v := .ref c0) (C := RX0) (T := TX0) (N := 3) hx hb hts hin0 hown hK hP 0 rfl rfl 2 (by decide) f16 (fun _ h9 => h9) rfl dX0_rowTimes_29 ?_
      refine lv_iload hx hb dX0_rowTimes_32 (lv_at hl 0 rfl) ?_
      refine rv_iald hx hb hK hP 3 rfl rfl (by omega) (by omega) dX0_rowTimes_34 ?_
      refine lv_aload_n hx hb dX0_rowTimes_35 rfl (lv_at hl 5 rfl) ?_
      refine lv_aload_n hx hb dX0_rowTimes_36 rfl (lv_at hl 3 rfl) ?_
      refine va_get (D := D) (ci := 0) (v := .ref b) (C := RX0) (T := TX0) (N := 3) hx hb hts hin0 hown hK hP 0 rfl rfl 1 (by decide) f13 (fun _ h9 => h9) rfl dX0_rowTimes_37 ?_
      refine lv_iload hx hb dX0_rowTimes_40 (lv_at hl 0 rfl) ?_
      refine rv_iald hx hb hK hP 2 rfl rfl (by omega) (by omega) dX0_rowTimes_42 ?_
      refine rv_top ((hJ t (by omega)).1) ?_
      refine rv_iald hx hb hK hP 4 rfl rfl ((hJ t (by omega)).2) (hnx) dX0_rowTimes_43 ?_
      refine lv_imul hx hb dX0_rowTimes_44 ?_
      refine lv_iadd hx hb dX0_rowTimes_45 ?_
      refine lv_istore_n (lv' := [(3, .int (v + ((w (q0 + t)) * (X (J t))))), (5, .int (nI (q0 + t))), (4, .int (nI q1)), (0, .ref h), (1, .int (nI i)), (2, .ref x)]) hx hb dX0_rowTimes_46 rfl hl (by decide) rfl (fun ls hl => ?_)
      refine lv_iinc (v := nI ((q0 + t) + 1)) (lv' := [(5, .int (nI ((q0 + t) + 1))), (3, .int (v + ((w (q0 + t)) * (X (J t))))), (4, .int (nI q1)), (0, .ref h), (1, .int (nI i)), (2, .ref x)]) hx hb dX0_rowTimes_47 hl (k := 1) rfl (rv_inc _) (by decide) rfl (fun ls hl => ?_)
      refine lv_goto (tgt := 20) hx hb dX0_rowTimes_50 (by decide) ?_
      exact ih20 (t + 1) (v + ((w (q0 + t)) * (X (J t)))) _ (by omega) (by rw [hv]; rfl) (lv_sub hl [0, 2, 1, 3, 4, 5] rfl)
  exact L20 _ 0 (nI 0) _ (Nat.add_sub_cancel' h01) (ms_nz) (lv_sub hl [0, 1, 2, 3, 4, 5] rfl)

set_option maxHeartbeats 4000000 in
set_option maxRecDepth 100000 in
theorem c_addRowTo (l : Launch) (D : va_G) (cI : ClassId) (h a b c0 n k : Nat) (f g w : Nat → Int32) (z nz : Nat) (Z : Nat → Int32) (fac : Int32) (J : Nat → Nat) (i q0 q1 : Nat) (hi : i + 1 < n) (hn : n < 2 ^ 31) (hk : k < 2 ^ 31) (e0 : f i = nI q0) (e1 : f (i + 1) = nI q1) (h01 : q0 ≤ q1) (h1k : q1 ≤ k) (hnz : nz < 2 ^ 31) (hJ : ∀ t, t < q1 - q0 → g (q0 + t) = nI (J t) ∧ J t < nz) : MetV l yX0_addRowTo wsX0_addRowTo rm_0 D [(cI, .int)] [.ref h, .ref z, .int (nI i), .int fac] [(h, .inr (0, [.ref a, .ref b, .ref c0])), (a, .inl (cI, n, .inl f)), (b, .inl (cI, k, .inl g)), (c0, .inl (cI, k, .inl w)), (z, .inl (cI, nz, .inl Z))] (fun u : Nat → Int32 => ∀ j, u j = Z j + ms_sm (fun t => if J t = j then fac * w (q0 + t) else 0) (q1 - q0)) (fun u => [(h, .inr (0, [.ref a, .ref b, .ref c0])), (a, .inl (cI, n, .inl f)), (b, .inl (cI, k, .inl g)), (c0, .inl (cI, k, .inl w)), (z, .inl (cI, nz, .inl u))]) 0 0 := by
  refine rs_V (cc := cX0_addRowTo) (maxL := 6) (by decide) rfl (Nat.le_of_ble_eq_true rfl) ?_
  intro p e s m args below meth c Q A ls hx hb hml hown hts hin hP hK hD hS hA hl ret
  have f7 := hts (.fieldLink RX0 7 "RowSparse$Support" "starts" "[I") (by decide +kernel)
  have f13 := hts (.fieldLink RX0 13 "RowSparse$Support" "columns" "[I") (by decide +kernel)
  have f16 := hts (.fieldLink RX0 16 "RowSparse$Support" "values" "[I") (by decide +kernel)
  have hin0 : ∀ w ∈ u_ws RX0 TX0 3, w ∈ wsX0_addRowTo := by decide +kernel
  have hl : lv_has ls 6 [(0, .ref h), (1, .ref z), (2, .int (nI i)), (3, .int fac)] := hl
  have hP : va_P D vwCl [(h, .inr (0, [.ref a, .ref b, .ref c0])), (a, .inl (cI, n, .inl f)), (b, .inl (cI, k, .inl g)), (c0, .inl (cI, k, .inl w)), (z, .inl (cI, nz, .inl Z))] s.heap := hP
  have hD : va_D A [(h, .inr (0, [.ref a, .ref b, .ref c0])), (a, .inl (cI, n, .inl f)), (b, .inl (cI, k, .inl g)), (c0, .inl (cI, k, .inl w)), (z, .inl (cI, nz, .inl Z))] := hD
  refine lv_aload_n hx hb dX0_addRowTo_0 rfl (lv_at hl 0 rfl) ?_
  refine va_get (D := D) (ci := 0) (v := .ref a) (C := RX0) (T := TX0) (N := 3) hx hb hts hin0 hown hK hP 0 rfl rfl 0 (by decide) f7 (fun _ h9 => h9) rfl dX0_addRowTo_1 ?_
  refine lv_iload_n hx hb dX0_addRowTo_4 rfl (lv_at hl 2 rfl) ?_
  refine lv_iconst (v := nI 1) hx hb dX0_addRowTo_5 (by decide +kernel) ?_
  refine rv_iadd hx hb dX0_addRowTo_6 ?_
  refine rv_iald hx hb hK hP 1 rfl rfl (hi) (hn) dX0_addRowTo_7 ?_
  refine rv_top (e1) ?_
  refine lv_istore (lv' := [(4, .int (nI q1)), (0, .ref h), (1, .ref z), (2, .int (nI i)), (3, .int fac)]) hx hb dX0_addRowTo_8 hl (by decide) rfl (fun ls hl => ?_)
  refine lv_aload_n hx hb dX0_addRowTo_10 rfl (lv_at hl 1 rfl) ?_
  refine va_get (D := D) (ci := 0) (v := .ref a) (C := RX0) (T := TX0) (N := 3) hx hb hts hin0 hown hK hP 0 rfl rfl 0 (by decide) f7 (fun _ h9 => h9) rfl dX0_addRowTo_11 ?_
  refine lv_iload_n hx hb dX0_addRowTo_14 rfl (lv_at hl 3 rfl) ?_
  refine rv_iald hx hb hK hP 1 rfl rfl (by omega) (by omega) dX0_addRowTo_15 ?_
  refine rv_top (e0) ?_
  refine lv_istore (lv' := [(5, .int (nI q0)), (4, .int (nI q1)), (0, .ref h), (1, .ref z), (2, .int (nI i)), (3, .int fac)]) hx hb dX0_addRowTo_16 hl (by decide) rfl (fun ls hl => ?_)
  have L18 : ∀ (k18 : Nat) (t : Nat) (Z1 : Nat → Int32) (H : Heap) (locs : List Loc) (ls : Array Slot), q0 + t + k18 = q1 → (∀ j, Z1 j = Z j + ms_sm (fun t => if J t = j then fac * w (q0 + t) else 0) t) → va_P D vwCl [(h, .inr (0, [.ref a, .ref b, .ref c0])), (a, .inl (cI, n, .inl f)), (b, .inl (cI, k, .inl g)), (c0, .inl (cI, k, .inl w)), (z, .inl (cI, nz, .inl Z1))] H → va_D A [(h, .inr (0, [.ref a, .ref b, .ref c0])), (a, .inl (cI, n, .inl f)), (b, .inl (cI, k, .inl g)), (c0, .inl (cI, k, .inl w)), (z, .inl (cI, nz, .inl Z1))] → va_S A s.heap H locs → lv_has ls 6 [(5, .int (nI (q0 + t))), (4, .int (nI q1)), (0, .ref h), (1, .ref z), (2, .int (nI i)), (3, .int fac)] → W p l e rm_0 s m args below meth c H locs 0 0 Q (F0 m 18 ls []) := by
    intro k18
    induction k18 with
    | zero =>
      intro t Z1 H locs ls hk18 hZ hP hD hS hl
      refine lv_iload hx hb dX0_addRowTo_18 (lv_at hl 0 rfl) ?_
      refine lv_iload hx hb dX0_addRowTo_20 (lv_at hl 1 rfl) ?_
      refine rv_ge_t (tgt := 52) hx hb dX0_addRowTo_22 (by decide) (by omega) (by omega) ?_
      exact ret _ _ _ _ Z1 dX0_addRowTo_52 (by rw [show q1 - q0 = t by omega]; exact hZ) (hP.sub [0, 1, 2, 3, 4] rfl) (hD.sub [0, 1, 2, 3, 4] (by decide) rfl) hS
    | succ k18 ih18 =>
      intro t Z1 H locs ls hk18 hZ hP hD hS hl
      refine lv_iload hx hb dX0_addRowTo_18 (lv_at hl 0 rfl) ?_
      refine lv_iload hx hb dX0_addRowTo_20 (lv_at hl 1 rfl) ?_
      refine rv_ge_f (tgt := 52) hx hb dX0_addRowTo_22 (by decide) (by omega) (by omega) ?_
      refine lv_aload_n hx hb dX0_addRowTo_25 rfl (lv_at hl 3 rfl) ?_
      refine lv_aload_n hx hb dX0_addRowTo_26 rfl (lv_at hl 2 rfl) ?_
      refine va_get (D := D) (ci := 0) (v := .ref b) (C := RX0) (T := TX0) (N := 3) hx hb hts hin0 hown hK hP 0 rfl rfl 1 (by decide) f13 (fun _ h9 => h9) rfl dX0_addRowTo_27 ?_
      refine lv_iload hx hb dX0_addRowTo_30 (lv_at hl 0 rfl) ?_
      refine rv_iald hx hb hK hP 2 rfl rfl (by omega) (by omega) dX0_addRowTo_32 ?_
      refine rv_top ((hJ t (by omega)).1) ?_
      refine lv_dup2_11 hx hb dX0_addRowTo_33 rfl rfl ?_
      refine rv_iald hx hb hK hP 4 rfl rfl ((hJ t (by omega)).2) (hnz) dX0_addRowTo_34 ?_
      refine lv_iload_n hx hb dX0_addRowTo_35 rfl (lv_at hl 5 rfl) ?_
      refine lv_aload_n hx hb dX0_addRowTo_36 rfl (lv_at hl 2 rfl) ?_
      refine va_get (D := D) (ci := 0) (v := .ref c0) (C := RX0) (T := TX0) (N := 3) hx hb hts hin0 hown hK hP 0 rfl rfl 2 (by decide) f16 (fun _ h9 => h9) rfl dX0_addRowTo_37 ?_
      refine lv_iload hx hb dX0_addRowTo_40 (lv_at hl 0 rfl) ?_
      refine rv_iald hx hb hK hP 3 rfl rfl (by omega) (by omega) dX0_addRowTo_42 ?_
      refine lv_imul hx hb dX0_addRowTo_43 ?_
      refine lv_iadd hx hb dX0_addRowTo_44 ?_
      refine rv_iast hx hb hK hP hD hS 4 rfl rfl ((hJ t (by omega)).2) (hnz) dX0_addRowTo_45 (fun H locs hP hD hS => ?_)
      have hP : va_P D vwCl [(h, .inr (0, [.ref a, .ref b, .ref c0])), (a, .inl (cI, n, .inl f)), (b, .inl (cI, k, .inl g)), (c0, .inl (cI, k, .inl w)), (z, .inl (cI, nz, .inl (upd Z1 (J t) ((Z1 (J t)) + (fac * (w (q0 + t)))))))] H := hP
      have hD : va_D A [(h, .inr (0, [.ref a, .ref b, .ref c0])), (a, .inl (cI, n, .inl f)), (b, .inl (cI, k, .inl g)), (c0, .inl (cI, k, .inl w)), (z, .inl (cI, nz, .inl (upd Z1 (J t) ((Z1 (J t)) + (fac * (w (q0 + t)))))))] := hD
      refine lv_iinc (v := nI ((q0 + t) + 1)) (lv' := [(5, .int (nI ((q0 + t) + 1))), (4, .int (nI q1)), (0, .ref h), (1, .ref z), (2, .int (nI i)), (3, .int fac)]) hx hb dX0_addRowTo_46 hl (k := 0) rfl (rv_inc _) (by decide) rfl (fun ls hl => ?_)
      refine lv_goto (tgt := 18) hx hb dX0_addRowTo_49 (by decide) ?_
      exact ih18 (t + 1) (upd Z1 (J t) ((Z1 (J t)) + (fac * (w (q0 + t))))) _ _ _ (by omega) (ms_acc (G := fun t => fac * w (q0 + t)) hZ) (hP.sub [0, 1, 2, 3, 4] rfl) (hD.sub [0, 1, 2, 3, 4] (by decide) rfl) hS (lv_sub hl [0, 1, 2, 3, 4, 5] rfl)
  exact L18 _ 0 Z _ _ _ (Nat.add_sub_cancel' h01) (fun j => (Int32.add_zero _).symm) (hP.sub [0, 1, 2, 3, 4] rfl) (hD.sub [0, 1, 2, 3, 4] (by decide) rfl) hS (lv_sub hl [0, 1, 2, 3, 4, 5] rfl)

set_option maxHeartbeats 4000000 in
set_option maxRecDepth 100000 in
theorem c_putRow (l : Launch) (D : va_G) (cI : ClassId) (h a b c0 n k : Nat) (f g w : Nat → Int32) (z S : Nat) (Z : Nat → Int32) (i q0 : Nat) (hi : i + 1 < n) (hn : n < 2 ^ 31) (hk : k < 2 ^ 31) (hS : S < 2 ^ 31) (e0 : f i = nI q0) (h0 : q0 ≤ k) : MetI l yX0_putRow wsX0_putRow rm_0 D [(cI, .int)] [.ref h, .int (nI i), .ref z] [(h, .inr (0, [.ref a, .ref b, .ref c0])), (a, .inl (cI, n, .inl f)), (b, .inl (cI, k, .inl g)), (c0, .inl (cI, k, .inl w)), (z, .inl (cI, S, .inl Z))] (fun (r : Int32) (u : (Nat → Int32) × (Nat → Int32) × (Nat → Int32)) => (q0 + ms_rc Z S ≤ k ∧ r = 1 ∧ u.1 = upd f (i + 1) (nI (q0 + ms_rc Z S)) ∧ (∀ j, j < S → ¬ Z j = 0 → u.2.1 (q0 + ms_rc Z j) = nI j ∧ u.2.2 (q0 + ms_rc Z j) = Z j) ∧ (∀ q, q < q0 → u.2.1 q = g q ∧ u.2.2 q = w q)) ∨ (k < q0 + ms_rc Z S ∧ r = 0 ∧ u.1 = f)) (fun u => [(h, .inr (0, [.ref a, .ref b, .ref c0])), (a, .inl (cI, n, .inl u.1)), (b, .inl (cI, k, .inl u.2.1)), (c0, .inl (cI, k, .inl u.2.2)), (z, .inl (cI, S, .inl Z))]) 0 0 := by
  refine rs_I (cc := cX0_putRow) (maxL := 5) (rty := .boolean) (by decide) rfl (Nat.le_of_ble_eq_true rfl) ?_
  intro p e s m args below meth c Q A ls hx hb hml hown hts hP hK hD hS hA hl ret
  have f7 := hts (.fieldLink RX0 7 "RowSparse$Support" "starts" "[I") (by decide +kernel)
  have f13 := hts (.fieldLink RX0 13 "RowSparse$Support" "columns" "[I") (by decide +kernel)
  have f16 := hts (.fieldLink RX0 16 "RowSparse$Support" "values" "[I") (by decide +kernel)
  have hin0 : ∀ w ∈ u_ws RX0 TX0 3, w ∈ wsX0_putRow := by decide +kernel
  have hl : lv_has ls 5 [(0, .ref h), (1, .int (nI i)), (2, .ref z)] := hl
  have hP : va_P D vwCl [(h, .inr (0, [.ref a, .ref b, .ref c0])), (a, .inl (cI, n, .inl f)), (b, .inl (cI, k, .inl g)), (c0, .inl (cI, k, .inl w)), (z, .inl (cI, S, .inl Z))] s.heap := hP
  have hD : va_D A [(h, .inr (0, [.ref a, .ref b, .ref c0])), (a, .inl (cI, n, .inl f)), (b, .inl (cI, k, .inl g)), (c0, .inl (cI, k, .inl w)), (z, .inl (cI, S, .inl Z))] := hD
  refine lv_aload_n hx hb dX0_putRow_0 rfl (lv_at hl 0 rfl) ?_
  refine va_get (D := D) (ci := 0) (v := .ref a) (C := RX0) (T := TX0) (N := 3) hx hb hts hin0 hown hK hP 0 rfl rfl 0 (by decide) f7 (fun _ h9 => h9) rfl dX0_putRow_1 ?_
  refine lv_iload_n hx hb dX0_putRow_4 rfl (lv_at hl 1 rfl) ?_
  refine rv_iald hx hb hK hP 1 rfl rfl (by omega) (by omega) dX0_putRow_5 ?_
  refine rv_top (e0) ?_
  refine lv_istore_n (lv' := [(3, .int (nI q0)), (0, .ref h), (1, .int (nI i)), (2, .ref z)]) hx hb dX0_putRow_6 rfl hl (by decide) rfl (fun ls hl => ?_)
  refine lv_iconst (v := nI 0) hx hb dX0_putRow_7 (by decide +kernel) ?_
  refine lv_istore (lv' := [(4, .int (nI 0)), (3, .int (nI q0)), (0, .ref h), (1, .int (nI i)), (2, .ref z)]) hx hb dX0_putRow_8 hl (by decide) rfl (fun ls hl => ?_)
  have L10 : ∀ (k10 : Nat) (j : Nat) (g1 : Nat → Int32) (w1 : Nat → Int32) (H : Heap) (locs : List Loc) (ls : Array Slot), j + k10 = S → q0 + ms_rc Z j ≤ k → (∀ t, t < j → ¬ Z t = 0 → g1 (q0 + ms_rc Z t) = nI t ∧ w1 (q0 + ms_rc Z t) = Z t) → (∀ q, q < q0 → g1 q = g q ∧ w1 q = w q) → va_P D vwCl [(h, .inr (0, [.ref a, .ref b, .ref c0])), (a, .inl (cI, n, .inl f)), (b, .inl (cI, k, .inl g1)), (c0, .inl (cI, k, .inl w1)), (z, .inl (cI, S, .inl Z))] H → va_D A [(h, .inr (0, [.ref a, .ref b, .ref c0])), (a, .inl (cI, n, .inl f)), (b, .inl (cI, k, .inl g1)), (c0, .inl (cI, k, .inl w1)), (z, .inl (cI, S, .inl Z))] → va_S A s.heap H locs → lv_has ls 5 [(4, .int (nI j)), (3, .int (nI (q0 + ms_rc Z j))), (0, .ref h), (1, .int (nI i)), (2, .ref z)] → W p l e rm_0 s m args below meth c H locs 0 0 Q (F0 m 10 ls []) := by
    intro k10
    induction k10 with
    | zero =>
      intro j g1 w1 H locs ls hk10 hk1 hg ho hP hD hS hl
      refine lv_iload hx hb dX0_putRow_10 (lv_at hl 0 rfl) ?_
      refine lv_aload_n hx hb dX0_putRow_12 rfl (lv_at hl 4 rfl) ?_
      refine va_alen (v := nI S) hx hb hK hP 4 0 rfl (ty := .int) rfl rfl dX0_putRow_13 ?_
      refine rv_ge_t (tgt := 62) hx hb dX0_putRow_14 (by decide) (by omega) (by omega) ?_
      refine lv_aload_n hx hb dX0_putRow_62 rfl (lv_at hl 2 rfl) ?_
      refine va_get (D := D) (ci := 0) (v := .ref a) (C := RX0) (T := TX0) (N := 3) hx hb hts hin0 hown hK hP 0 rfl rfl 0 (by decide) f7 (fun _ h9 => h9) rfl dX0_putRow_63 ?_
      refine lv_iload_n hx hb dX0_putRow_66 rfl (lv_at hl 3 rfl) ?_
      refine lv_iconst (v := nI 1) hx hb dX0_putRow_67 (by decide +kernel) ?_
      refine rv_iadd hx hb dX0_putRow_68 ?_
      refine lv_iload_n hx hb dX0_putRow_69 rfl (lv_at hl 1 rfl) ?_
      refine rv_iast hx hb hK hP hD hS 1 rfl rfl (by omega) (by omega) dX0_putRow_70 (fun H locs hP hD hS => ?_)
      have hP : va_P D vwCl [(h, .inr (0, [.ref a, .ref b, .ref c0])), (a, .inl (cI, n, .inl (upd f (i + 1) (nI (q0 + ms_rc Z j))))), (b, .inl (cI, k, .inl g1)), (c0, .inl (cI, k, .inl w1)), (z, .inl (cI, S, .inl Z))] H := hP
      have hD : va_D A [(h, .inr (0, [.ref a, .ref b, .ref c0])), (a, .inl (cI, n, .inl (upd f (i + 1) (nI (q0 + ms_rc Z j))))), (b, .inl (cI, k, .inl g1)), (c0, .inl (cI, k, .inl w1)), (z, .inl (cI, S, .inl Z))] := hD
      refine lv_iconst (v := nI 1) hx hb dX0_putRow_71 (by decide +kernel) ?_
      exact ret _ _ _ _ _ (upd f (i + 1) (nI (q0 + ms_rc Z j)), g1, w1) dX0_putRow_72 (rfl) (by rw [show S = j by omega]; exact Or.inl ⟨hk1, ms_n1, rfl, hg, ho⟩) (hP.sub [0, 1, 2, 3, 4] rfl) (hD.sub [0, 1, 2, 3, 4] (by decide) rfl) hS
    | succ k10 ih10 =>
      intro j g1 w1 H locs ls hk10 hk1 hg ho hP hD hS hl
      refine lv_iload hx hb dX0_putRow_10 (lv_at hl 0 rfl) ?_
      refine lv_aload_n hx hb dX0_putRow_12 rfl (lv_at hl 4 rfl) ?_
      refine va_alen (v := nI S) hx hb hK hP 4 0 rfl (ty := .int) rfl rfl dX0_putRow_13 ?_
      refine rv_ge_f (tgt := 62) hx hb dX0_putRow_14 (by decide) (by omega) (by omega) ?_
      refine lv_aload_n hx hb dX0_putRow_17 rfl (lv_at hl 4 rfl) ?_
      refine lv_iload hx hb dX0_putRow_18 (lv_at hl 0 rfl) ?_
      refine rv_iald hx hb hK hP 4 rfl rfl (by omega) (by omega) dX0_putRow_20 ?_
      refine lv_if_eq (tgt := 56) hx hb dX0_putRow_21 (by decide) (fun hz => ?_) (fun hz => ?_)
      · refine lv_iinc (v := nI (j + 1)) (lv' := [(4, .int (nI (j + 1))), (3, .int (nI (q0 + ms_rc Z j))), (0, .ref h), (1, .int (nI i)), (2, .ref z)]) hx hb dX0_putRow_56 hl (k := 0) rfl (rv_inc _) (by decide) rfl (fun ls hl => ?_)
        refine lv_goto (tgt := 10) hx hb dX0_putRow_59 (by decide) ?_
        have ez : ms_rc Z (j + 1) = ms_rc Z j := ms_rc_no hz
        rw [← ez] at hl
        exact ih10 (j + 1) g1 w1 _ _ _ (by omega) (by rw [ez]; exact hk1) (ms_put_skip hz hg) (ho) (hP.sub [0, 1, 2, 3, 4] rfl) (hD.sub [0, 1, 2, 3, 4] (by decide) rfl) hS (lv_sub hl [0, 1, 2, 3, 4] rfl)
      · refine lv_iload_n hx hb dX0_putRow_24 rfl (lv_at hl 1 rfl) ?_
        refine lv_aload_n hx hb dX0_putRow_25 rfl (lv_at hl 2 rfl) ?_
        refine va_get (D := D) (ci := 0) (v := .ref b) (C := RX0) (T := TX0) (N := 3) hx hb hts hin0 hown hK hP 0 rfl rfl 1 (by decide) f13 (fun _ h9 => h9) rfl dX0_putRow_26 ?_
        refine va_alen (v := nI k) hx hb hK hP 2 0 rfl (ty := .int) rfl rfl dX0_putRow_29 ?_
        refine rv_lt (tgt := 35) hx hb dX0_putRow_30 (by decide) (by omega) (by omega) (fun hlt => ?_) (fun hlt => ?_)
        · refine lv_aload_n hx hb dX0_putRow_35 rfl (lv_at hl 2 rfl) ?_
          refine va_get (D := D) (ci := 0) (v := .ref b) (C := RX0) (T := TX0) (N := 3) hx hb hts hin0 hown hK hP 0 rfl rfl 1 (by decide) f13 (fun _ h9 => h9) rfl dX0_putRow_36 ?_
          refine lv_iload_n hx hb dX0_putRow_39 rfl (lv_at hl 1 rfl) ?_
          refine lv_iload hx hb dX0_putRow_40 (lv_at hl 0 rfl) ?_
          refine rv_iast hx hb hK hP hD hS 2 rfl rfl (by omega) (by omega) dX0_putRow_42 (fun H locs hP hD hS => ?_)
          have hP : va_P D vwCl [(h, .inr (0, [.ref a, .ref b, .ref c0])), (a, .inl (cI, n, .inl f)), (b, .inl (cI, k, .inl (upd g1 (q0 + ms_rc Z j) (nI j)))), (c0, .inl (cI, k, .inl w1)), (z, .inl (cI, S, .inl Z))] H := hP
          have hD : va_D A [(h, .inr (0, [.ref a, .ref b, .ref c0])), (a, .inl (cI, n, .inl f)), (b, .inl (cI, k, .inl (upd g1 (q0 + ms_rc Z j) (nI j)))), (c0, .inl (cI, k, .inl w1)), (z, .inl (cI, S, .inl Z))] := hD
          refine lv_aload_n hx hb dX0_putRow_43 rfl (lv_at hl 2 rfl) ?_
          refine va_get (D := D) (ci := 0) (v := .ref c0) (C := RX0) (T := TX0) (N := 3) hx hb hts hin0 hown hK hP 0 rfl rfl 2 (by decide) f16 (fun _ h9 => h9) rfl dX0_putRow_44 ?_
          refine lv_iload_n hx hb dX0_putRow_47 rfl (lv_at hl 1 rfl) ?_
          refine lv_aload_n hx hb dX0_putRow_48 rfl (lv_at hl 4 rfl) ?_
          refine lv_iload hx hb dX0_putRow_49 (lv_at hl 0 rfl) ?_
          refine rv_iald hx hb hK hP 4 rfl rfl (by omega) (by omega) dX0_putRow_51 ?_
          refine rv_iast hx hb hK hP hD hS 3 rfl rfl (by omega) (by omega) dX0_putRow_52 (fun H locs hP hD hS => ?_)
          have hP : va_P D vwCl [(h, .inr (0, [.ref a, .ref b, .ref c0])), (a, .inl (cI, n, .inl f)), (b, .inl (cI, k, .inl (upd g1 (q0 + ms_rc Z j) (nI j)))), (c0, .inl (cI, k, .inl (upd w1 (q0 + ms_rc Z j) (Z j)))), (z, .inl (cI, S, .inl Z))] H := hP
          have hD : va_D A [(h, .inr (0, [.ref a, .ref b, .ref c0])), (a, .inl (cI, n, .inl f)), (b, .inl (cI, k, .inl (upd g1 (q0 + ms_rc Z j) (nI j)))), (c0, .inl (cI, k, .inl (upd w1 (q0 + ms_rc Z j) (Z j)))), (z, .inl (cI, S, .inl Z))] := hD
          refine lv_iinc (v := nI ((q0 + ms_rc Z j) + 1)) (lv' := [(3, .int (nI ((q0 + ms_rc Z j) + 1))), (4, .int (nI j)), (0, .ref h), (1, .int (nI i)), (2, .ref z)]) hx hb dX0_putRow_53 hl (k := 1) rfl (rv_inc _) (by decide) rfl (fun ls hl => ?_)
          refine lv_iinc (v := nI (j + 1)) (lv' := [(4, .int (nI (j + 1))), (3, .int (nI ((q0 + ms_rc Z j) + 1))), (0, .ref h), (1, .int (nI i)), (2, .ref z)]) hx hb dX0_putRow_56 hl (k := 1) rfl (rv_inc _) (by decide) rfl (fun ls hl => ?_)
          refine lv_goto (tgt := 10) hx hb dX0_putRow_59 (by decide) ?_
          have ez : q0 + ms_rc Z j + 1 = q0 + ms_rc Z (j + 1) := by rw [ms_rc_yes hz]; rfl
          rw [ez] at hl
          exact ih10 (j + 1) (upd g1 (q0 + ms_rc Z j) (nI j)) (upd w1 (q0 + ms_rc Z j) (Z j)) _ _ _ (by omega) (by omega) ((ms_put_step hz hg ho).1) ((ms_put_step hz hg ho).2) (hP.sub [0, 1, 2, 3, 4] rfl) (hD.sub [0, 1, 2, 3, 4] (by decide) rfl) hS (lv_sub hl [0, 1, 2, 3, 4] rfl)
        · refine lv_iconst (v := nI 0) hx hb dX0_putRow_33 (by decide +kernel) ?_
          exact ret _ _ _ _ _ (f, g1, w1) dX0_putRow_34 (rfl) (Or.inr ⟨by have e9 := ms_rc_lt (show j < S by omega) hz; omega, ms_nz, rfl⟩) (hP.sub [0, 1, 2, 3, 4] rfl) (hD.sub [0, 1, 2, 3, 4] (by decide) rfl) hS
  exact L10 _ 0 g w _ _ _ (Nat.zero_add _) (h0) (fun t ht => absurd ht (Nat.not_lt_zero t)) (fun q _ => ⟨rfl, rfl⟩) (hP.sub [0, 1, 2, 3, 4] rfl) (hD.sub [0, 1, 2, 3, 4] (by decide) rfl) hS (lv_sub hl [0, 1, 2, 3, 4] rfl)
