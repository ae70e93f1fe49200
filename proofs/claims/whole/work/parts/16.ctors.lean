set_option maxHeartbeats 4000000 in
set_option maxRecDepth 100000 in
theorem c_Sinit (l : Launch) (D : va_G) (cI : ClassId) (h S K : Nat) (b1 : S ≤ 60) (b2 : K ≤ 1000) : MetV l yX0_init wsX0_init rm_S D [(cI, .int)] [.ref h, .int (nI S), .int (nI K)] [(h, .inr (0, [.null, .null, .null]))] (fun _ : Nat × Nat × Nat => True) (fun u => [(h, .inr (0, [.ref u.1, .ref u.2.1, .ref u.2.2])), (u.1, .inl (cI, S + 1, .inl (fun _ => 0))), (u.2.1, .inl (cI, K, .inl (fun _ => 0))), (u.2.2, .inl (cI, K, .inl (fun _ => 0)))]) 3 2100 := by
  refine rs_V (cc := cX0_init) (maxL := 3) (by decide) rfl (Nat.le_of_ble_eq_true rfl) ?_
  intro p e s m args below meth c Q A ls hx hb hml hown hts hin hP hK hD hS hA hl ret
  have f7 := hts (.fieldLink RX0 7 "RowSparse$Support" "starts" "[I") (by decide +kernel)
  have f13 := hts (.fieldLink RX0 13 "RowSparse$Support" "columns" "[I") (by decide +kernel)
  have f16 := hts (.fieldLink RX0 16 "RowSparse$Support" "values" "[I") (by decide +kernel)
  have hin0 : ∀ w ∈ u_ws RX0 TX0 3, w ∈ wsX0_init := by decide +kernel
  have hl : lv_has ls 3 [(0, .ref h), (1, .int (nI S)), (2, .int (nI K))] := hl
  have hP : va_P D vwCl [(h, .inr (0, [.null, .null, .null]))] s.heap := hP
  have hD : va_D A [(h, .inr (0, [.null, .null, .null]))] := hD
  have harr := hts (.arrayClass .int) (by decide +kernel)
  refine lv_aload_n hx hb dX0_init_0 rfl (lv_at hl 0 rfl) ?_
  refine W.objInit hx hb hown (hts (.methodLink RX0 1 objectInit) (by decide +kernel)) (hts (.instanceMethod objectInit) (by decide +kernel)) (hts (.code objectInit ⟨#[0xb1]⟩ 1 none) (by decide +kernel)) rfl (by rw [hml]; exact hl.1) rfl dX0_init_1 (Nat.le_of_ble_eq_true rfl) (Nat.le_of_ble_eq_true rfl) ?_
  refine W.eq (g2 := F0 m 4 ls []) rfl ?_
  refine lv_aload_n hx hb dX0_init_4 rfl (lv_at hl 0 rfl) ?_
  refine lv_iload_n hx hb dX0_init_5 rfl (lv_at hl 1 rfl) ?_
  refine lv_iconst (v := nI 1) hx hb dX0_init_6 (by decide +kernel) ?_
  refine rv_iadd hx hb dX0_init_7 ?_
  refine rs_newa (N := (S + 1)) hx hb harr hK hP hD hS hA (by omega) (show 0 + 1 ≤ 3 by omega) (show 0 + (S + 1) ≤ 2100 by omega) dX0_init_8 (fun sa H hP hD hS => ?_)
  have hP : va_P D vwCl [(h, .inr (0, [.null, .null, .null])), (sa, .inl (cI, S + 1, .inl (fun _ => 0)))] H := hP
  have hD : va_D A [(h, .inr (0, [.null, .null, .null])), (sa, .inl (cI, S + 1, .inl (fun _ => 0)))] := hD
  refine W.widen (k := 1) (n := 61) (by omega) (by omega) ?_
  refine va_putF (D := D) (ci := 0) (v := .ref sa) (ty := .array .int) (C := RX0) (T := TX0) (N := 3) hx hb hts hin0 tyX0 tyX0_ok nmX0 hown hK hP hD hS 0 rfl rfl 0 (by decide) f7 (fun _ h9 => h9) rfl hin rfl (by decide +kernel) rfl rfl (Nat.le_of_ble_eq_true rfl) dX0_init_10 (fun H locs hP hD hS => ?_)
  have hP : va_P D vwCl [(h, .inr (0, [.ref sa, .null, .null])), (sa, .inl (cI, S + 1, .inl (fun _ => 0)))] H := hP
  have hD : va_D A [(h, .inr (0, [.ref sa, .null, .null])), (sa, .inl (cI, S + 1, .inl (fun _ => 0)))] := hD
  refine lv_aload_n hx hb dX0_init_13 rfl (lv_at hl 0 rfl) ?_
  refine lv_iload_n hx hb dX0_init_14 rfl (lv_at hl 2 rfl) ?_
  refine rs_newa (N := K) hx hb harr hK hP hD hS hA (by omega) (show 1 + 1 ≤ 3 by omega) (show 61 + K ≤ 2100 by omega) dX0_init_15 (fun sb H hP hD hS => ?_)
  have hP : va_P D vwCl [(h, .inr (0, [.ref sa, .null, .null])), (sa, .inl (cI, S + 1, .inl (fun _ => 0))), (sb, .inl (cI, K, .inl (fun _ => 0)))] H := hP
  have hD : va_D A [(h, .inr (0, [.ref sa, .null, .null])), (sa, .inl (cI, S + 1, .inl (fun _ => 0))), (sb, .inl (cI, K, .inl (fun _ => 0)))] := hD
  refine W.widen (k := 2) (n := 1061) (by omega) (by omega) ?_
  refine va_putF (D := D) (ci := 0) (v := .ref sb) (ty := .array .int) (C := RX0) (T := TX0) (N := 3) hx hb hts hin0 tyX0 tyX0_ok nmX0 hown hK hP hD hS 0 rfl rfl 1 (by decide) f13 (fun _ h9 => h9) rfl hin rfl (by decide +kernel) rfl rfl (Nat.le_of_ble_eq_true rfl) dX0_init_17 (fun H locs hP hD hS => ?_)
  have hP : va_P D vwCl [(h, .inr (0, [.ref sa, .ref sb, .null])), (sa, .inl (cI, S + 1, .inl (fun _ => 0))), (sb, .inl (cI, K, .inl (fun _ => 0)))] H := hP
  have hD : va_D A [(h, .inr (0, [.ref sa, .ref sb, .null])), (sa, .inl (cI, S + 1, .inl (fun _ => 0))), (sb, .inl (cI, K, .inl (fun _ => 0)))] := hD
  refine lv_aload_n hx hb dX0_init_20 rfl (lv_at hl 0 rfl) ?_
  refine lv_iload_n hx hb dX0_init_21 rfl (lv_at hl 2 rfl) ?_
  refine rs_newa (N := K) hx hb harr hK hP hD hS hA (by omega) (show 2 + 1 ≤ 3 by omega) (show 1061 + K ≤ 2100 by omega) dX0_init_22 (fun sc H hP hD hS => ?_)
  have hP : va_P D vwCl [(h, .inr (0, [.ref sa, .ref sb, .null])), (sa, .inl (cI, S + 1, .inl (fun _ => 0))), (sb, .inl (cI, K, .inl (fun _ => 0))), (sc, .inl (cI, K, .inl (fun _ => 0)))] H := hP
  have hD : va_D A [(h, .inr (0, [.ref sa, .ref sb, .null])), (sa, .inl (cI, S + 1, .inl (fun _ => 0))), (sb, .inl (cI, K, .inl (fun _ => 0))), (sc, .inl (cI, K, .inl (fun _ => 0)))] := hD
  refine W.widen (k := 3) (n := 2061) (by omega) (by omega) ?_
  refine va_putF (D := D) (ci := 0) (v := .ref sc) (ty := .array .int) (C := RX0) (T := TX0) (N := 3) hx hb hts hin0 tyX0 tyX0_ok nmX0 hown hK hP hD hS 0 rfl rfl 2 (by decide) f16 (fun _ h9 => h9) rfl hin rfl (by decide +kernel) rfl rfl (Nat.le_of_ble_eq_true rfl) dX0_init_24 (fun H locs hP hD hS => ?_)
  have hP : va_P D vwCl [(h, .inr (0, [.ref sa, .ref sb, .ref sc])), (sa, .inl (cI, S + 1, .inl (fun _ => 0))), (sb, .inl (cI, K, .inl (fun _ => 0))), (sc, .inl (cI, K, .inl (fun _ => 0)))] H := hP
  have hD : va_D A [(h, .inr (0, [.ref sa, .ref sb, .ref sc])), (sa, .inl (cI, S + 1, .inl (fun _ => 0))), (sb, .inl (cI, K, .inl (fun _ => 0))), (sc, .inl (cI, K, .inl (fun _ => 0)))] := hD
  refine W.widen (k := 3) (n := 2100) (by omega) (by omega) ?_
  exact ret _ _ _ _ (sa, sb, sc) dX0_init_27 (trivial) (hP.sub [0, 1, 2, 3] rfl) (hD.sub [0, 1, 2, 3] (by decide) rfl) hS

set_option maxHeartbeats 4000000 in
set_option maxRecDepth 100000 in
theorem c_init (l : Launch) (D : va_G) (cI : ClassId) (o : Nat) (rows cols cap : Int32) : MetV l yX1_init wsX1_init rm_C D [(cI, .int)] [.ref o, .int rows, .int cols, .int cap] [(o, .inr (1, [.int 0, .int 0, .int 0, .null, .null, .null, .null, .null, .int 0, .null, .null, .null]))] (fun x : (Nat × Nat × Nat × Nat × Nat × Nat) × st_C => st_rc (st_0 rows cols cap) x.2) (fun x : (Nat × Nat × Nat × Nat × Nat × Nat) × st_C => st_wC cI o x.1.1 x.1.2.1 x.1.2.2.1 x.1.2.2.2.1 x.1.2.2.2.2.1 x.1.2.2.2.2.2 (st_0 rows cols cap) x.2) 14 8000 := by
  refine rs_V (cc := cX1_init) (maxL := 5) (by decide) rfl (Nat.le_of_ble_eq_true rfl) ?_
  intro p e s m args below meth c Q A ls hx hb hml hown hts hin hP hK hD hS hA hl ret
  have f13 := hts (.fieldLink RX1 13 "RowSparse" "rows" "I") (by decide +kernel)
  have f17 := hts (.fieldLink RX1 17 "RowSparse" "cols" "I") (by decide +kernel)
  have f20 := hts (.fieldLink RX1 20 "RowSparse" "cap" "I") (by decide +kernel)
  have f33 := hts (.fieldLink RX1 33 "RowSparse" "support" "LRowSparse$Support;") (by decide +kernel)
  have f37 := hts (.fieldLink RX1 37 "RowSparse" "spare" "LRowSparse$Support;") (by decide +kernel)
  have f40 := hts (.fieldLink RX1 40 "RowSparse" "pendingRows" "[I") (by decide +kernel)
  have f44 := hts (.fieldLink RX1 44 "RowSparse" "pendingCols" "[I") (by decide +kernel)
  have f47 := hts (.fieldLink RX1 47 "RowSparse" "pendingValues" "[I") (by decide +kernel)
  have f50 := hts (.fieldLink RX1 50 "RowSparse" "pending" "I") (by decide +kernel)
  have f53 := hts (.fieldLink RX1 53 "RowSparse" "vector" "[I") (by decide +kernel)
  have f56 := hts (.fieldLink RX1 56 "RowSparse" "product" "[I") (by decide +kernel)
  have f59 := hts (.fieldLink RX1 59 "RowSparse" "line" "[I") (by decide +kernel)
  have hin0 : ∀ w ∈ u_ws RX0 TX0 3, w ∈ wsX1_init := by decide +kernel
  have hin1 : ∀ w ∈ u_ws RX1 TX1 12, w ∈ wsX1_init := by decide +kernel
  have hl : lv_has ls 5 [(0, .ref o), (1, .int rows), (2, .int cols), (3, .int cap)] := hl
  have hP : va_P D vwCl [(o, .inr (1, [.int 0, .int 0, .int 0, .null, .null, .null, .null, .null, .int 0, .null, .null, .null]))] s.heap := hP
  have hD : va_D A [(o, .inr (1, [.int 0, .int 0, .int 0, .null, .null, .null, .null, .null, .int 0, .null, .null, .null]))] := hD
  have harr := hts (.arrayClass .int) (by decide +kernel)
  have hr0 := st_rc0 rows cols cap
  obtain ⟨R, eR⟩ : ∃ z, z = ms_cl rows 60 := ⟨_, rfl⟩
  obtain ⟨C, eC⟩ : ∃ z, z = ms_cl cols 60 := ⟨_, rfl⟩
  obtain ⟨K, eK⟩ : ∃ z, z = ms_cl cap 1000 := ⟨_, rfl⟩
  obtain ⟨S, eS⟩ : ∃ z, z = max R C := ⟨_, rfl⟩
  have e0 : st_0 rows cols cap = ((K, R, C, S, 0), (fun _ _ => 0), (fun _ _ => 0), (fun _ => 0), fun _ => 0) := by rw [eS, eK, eC, eR]; rfl
  rw [e0] at ret
  rw [← eR, ← eC, ← eK, ← eS] at hr0
  obtain ⟨⟨b1, b2, b3, b4, b5, b6, b7, b8⟩, -⟩ := id hr0.1
  refine lv_aload_n hx hb dX1_init_0 rfl (lv_at hl 0 rfl) ?_
  refine W.objInit hx hb hown (hts (.methodLink RX1 1 objectInit) (by decide +kernel)) (hts (.instanceMethod objectInit) (by decide +kernel)) (hts (.code objectInit ⟨#[0xb1]⟩ 1 none) (by decide +kernel)) rfl (by rw [hml]; exact hl.1) rfl dX1_init_1 (Nat.le_of_ble_eq_true rfl) (Nat.le_of_ble_eq_true rfl) ?_
  refine W.eq (g2 := F0 m 4 ls []) rfl ?_
  refine lv_aload_n hx hb dX1_init_4 rfl (lv_at hl 0 rfl) ?_
  refine lv_iload_n hx hb dX1_init_5 rfl (lv_at hl 1 rfl) ?_
  refine lv_bipush (v := nI 60) hx hb dX1_init_6 (by decide +kernel) ?_
  refine rs_cRS (As := [.int rows, .int (nI 60)]) (rest := [.ref o]) ⟨hx, hb, hml, hown, hts⟩ hl.1 (c_nearest l D cI rows 60 (by omega) (by omega)) (va_cwS 2 hts gX1_init_X1_nearest rfl rfl rfl (by decide +kernel) ⟨Nat.le_of_ble_eq_true rfl, Nat.le_of_ble_eq_true rfl⟩) hK hP [] rfl rfl rfl (Nat.le_of_ble_eq_true rfl) dX1_init_8 (Nat.le_of_ble_eq_true rfl) (Nat.le_of_ble_eq_true rfl) (fun r hv => ?_)
  rw [← eR] at hv
  subst hv
  refine va_put (D := D) (ci := 1) (v := .int (nI R)) (ty := .int) (C := RX1) (T := TX1) (N := 12) hx hb hts hin1 tyX1 tyX1_ok nmX1 hown hK hP hD hS 0 rfl rfl 1 (by decide) f13 (fun _ h9 => h9) rfl (by decide +kernel) rfl rfl (Nat.le_of_ble_eq_true rfl) dX1_init_11 (fun H locs hP hD hS => ?_)
  have hP : va_P D vwCl [(o, .inr (1, [.int 0, .int (nI R), .int 0, .null, .null, .null, .null, .null, .int 0, .null, .null, .null]))] H := hP
  have hD : va_D A [(o, .inr (1, [.int 0, .int (nI R), .int 0, .null, .null, .null, .null, .null, .int 0, .null, .null, .null]))] := hD
  refine lv_aload_n hx hb dX1_init_14 rfl (lv_at hl 0 rfl) ?_
  refine lv_iload_n hx hb dX1_init_15 rfl (lv_at hl 2 rfl) ?_
  refine lv_bipush (v := nI 60) hx hb dX1_init_16 (by decide +kernel) ?_
  refine rs_cRS (As := [.int cols, .int (nI 60)]) (rest := [.ref o]) ⟨hx, hb, hml, hown, hts⟩ hl.1 (c_nearest l D cI cols 60 (by omega) (by omega)) (va_cwS 2 hts gX1_init_X1_nearest rfl rfl rfl (by decide +kernel) ⟨Nat.le_of_ble_eq_true rfl, Nat.le_of_ble_eq_true rfl⟩) hK hP [] rfl rfl rfl (Nat.le_of_ble_eq_true rfl) dX1_init_18 (Nat.le_of_ble_eq_true rfl) (Nat.le_of_ble_eq_true rfl) (fun r hv => ?_)
  rw [← eC] at hv
  subst hv
  refine va_put (D := D) (ci := 1) (v := .int (nI C)) (ty := .int) (C := RX1) (T := TX1) (N := 12) hx hb hts hin1 tyX1 tyX1_ok nmX1 hown hK hP hD hS 0 rfl rfl 2 (by decide) f17 (fun _ h9 => h9) rfl (by decide +kernel) rfl rfl (Nat.le_of_ble_eq_true rfl) dX1_init_21 (fun H locs hP hD hS => ?_)
  have hP : va_P D vwCl [(o, .inr (1, [.int 0, .int (nI R), .int (nI C), .null, .null, .null, .null, .null, .int 0, .null, .null, .null]))] H := hP
  have hD : va_D A [(o, .inr (1, [.int 0, .int (nI R), .int (nI C), .null, .null, .null, .null, .null, .int 0, .null, .null, .null]))] := hD
  refine lv_aload_n hx hb dX1_init_24 rfl (lv_at hl 0 rfl) ?_
  refine lv_iload_n hx hb dX1_init_25 rfl (lv_at hl 3 rfl) ?_
  refine lv_sipush (v := nI 1000) hx hb dX1_init_26 (by decide +kernel) ?_
  refine rs_cRS (As := [.int cap, .int (nI 1000)]) (rest := [.ref o]) ⟨hx, hb, hml, hown, hts⟩ hl.1 (c_nearest l D cI cap 1000 (by omega) (by omega)) (va_cwS 2 hts gX1_init_X1_nearest rfl rfl rfl (by decide +kernel) ⟨Nat.le_of_ble_eq_true rfl, Nat.le_of_ble_eq_true rfl⟩) hK hP [] rfl rfl rfl (Nat.le_of_ble_eq_true rfl) dX1_init_29 (Nat.le_of_ble_eq_true rfl) (Nat.le_of_ble_eq_true rfl) (fun r hv => ?_)
  rw [← eK] at hv
  subst hv
  refine va_putF (D := D) (ci := 1) (v := .int (nI K)) (ty := .int) (C := RX1) (T := TX1) (N := 12) hx hb hts hin1 tyX1 tyX1_ok nmX1 hown hK hP hD hS 0 rfl rfl 0 (by decide) f20 (fun _ h9 => h9) rfl hin rfl (by decide +kernel) rfl rfl (Nat.le_of_ble_eq_true rfl) dX1_init_32 (fun H locs hP hD hS => ?_)
  have hP : va_P D vwCl [(o, .inr (1, [.int (nI K), .int (nI R), .int (nI C), .null, .null, .null, .null, .null, .int 0, .null, .null, .null]))] H := hP
  have hD : va_D A [(o, .inr (1, [.int (nI K), .int (nI R), .int (nI C), .null, .null, .null, .null, .null, .int 0, .null, .null, .null]))] := hD
  refine lv_aload_n hx hb dX1_init_35 rfl (lv_at hl 0 rfl) ?_
  refine va_get (D := D) (ci := 1) (v := .int (nI R)) (C := RX1) (T := TX1) (N := 12) hx hb hts hin1 hown hK hP 0 rfl rfl 1 (by decide) f13 (fun _ h9 => h9) rfl dX1_init_36 ?_
  refine lv_aload_n hx hb dX1_init_39 rfl (lv_at hl 0 rfl) ?_
  refine va_get (D := D) (ci := 1) (v := .int (nI C)) (C := RX1) (T := TX1) (N := 12) hx hb hts hin1 hown hK hP 0 rfl rfl 2 (by decide) f17 (fun _ h9 => h9) rfl dX1_init_40 ?_
  refine va_mmax hx hb (hml.trans hl.1.symm) hown (hts (.methodLink RX1 23 Lib.Math.max.name) (by decide +kernel)) (hts (.static Lib.Math.max.name) (by decide +kernel)) (hts (.initialized "java/lang/Math") (by decide +kernel)) (hts (.code Lib.Math.max.name Lib.Math.max.code 2 (some .int)) (by decide +kernel)) (Nat.le_of_ble_eq_true rfl) (Nat.le_of_ble_eq_true rfl) (Nat.le_of_ble_eq_true rfl) (Nat.le_of_ble_eq_true rfl) dX1_init_43 ?_
  refine rv_top ((ms_max (by omega) (by omega)).trans (congrArg nI eS.symm)) ?_
  refine lv_istore (lv' := [(4, .int (nI S)), (0, .ref o), (1, .int rows), (2, .int cols), (3, .int cap)]) hx hb dX1_init_46 hl (by decide) rfl (fun ls hl => ?_)
  refine lv_aload_n hx hb dX1_init_48 rfl (lv_at hl 1 rfl) ?_
  refine va_new (ci := 0) (fs := [.null, .null, .null]) (C := RX0) (T := TX0) (N := 3) hx hb hts hin0 tyX0 tyX0_ok hown (hts (.classLink RX1 28 RX0) (by decide +kernel)) (hts (.instantiable RX0 3) (by decide +kernel)) (hts (.initialized RX0) (by decide +kernel)) hK hP hD hS hA rfl (fun j hj => by rcases (show j = 0 ∨ j = 1 ∨ j = 2 by omega) with rfl | rfl | rfl <;> rfl) (show 0 + 1 ≤ 14 by omega) (show 0 + 3 ≤ 8000 by omega) dX1_init_49 (fun su H hP hD hS => ?_)
  have hP : va_P D vwCl [(o, .inr (1, [.int (nI K), .int (nI R), .int (nI C), .null, .null, .null, .null, .null, .int 0, .null, .null, .null])), (su, .inr (0, [.null, .null, .null]))] H := hP
  have hD : va_D A [(o, .inr (1, [.int (nI K), .int (nI R), .int (nI C), .null, .null, .null, .null, .null, .int 0, .null, .null, .null])), (su, .inr (0, [.null, .null, .null]))] := hD
  refine W.widen (k := 1) (n := 3) (by omega) (by omega) ?_
  refine lv_dup hx hb dX1_init_52 rfl ?_
  refine lv_iload hx hb dX1_init_53 (lv_at hl 0 rfl) ?_
  refine lv_aload_n hx hb dX1_init_55 rfl (lv_at hl 1 rfl) ?_
  refine va_get (D := D) (ci := 1) (v := .int (nI K)) (C := RX1) (T := TX1) (N := 12) hx hb hts hin1 hown hK hP 0 rfl rfl 0 (by decide) f20 (fun _ h9 => h9) rfl dX1_init_56 ?_
  refine rs_cVN (As := [.int (nI S), .int (nI K)]) (rest := [.ref su, .ref o]) (WR := [(o, .inr (1, [.int (nI K), .int (nI R), .int (nI C), .null, .null, .null, .null, .null, .int 0, .null, .null, .null]))]) ⟨hx, hb, hml, hown, hts⟩ hl.1 (c_Sinit l D cI su S K (by omega) (by omega)) (cwI 2 hts gX1_init_X0_init rfl rfl rfl (hts (.initialized RX0) (by decide +kernel)) (hts (.methodLink RX1 30 yX0_init) (by decide +kernel)) (hts (.instanceMethod yX0_init) (by decide +kernel)) rfl (by decide +kernel) ⟨Nat.le_of_ble_eq_true rfl, Nat.le_of_ble_eq_true rfl⟩) hK hP hD hS hA [1] [0] rfl rfl (by decide) (by decide) (by decide) rfl rfl (Nat.le_of_ble_eq_true rfl) dX1_init_59 (Nat.le_of_ble_eq_true rfl) (Nat.le_of_ble_eq_true rfl) (fun u H locs hu hP hD hS => ?_)
  obtain ⟨sa, sb, sc⟩ := u
  have hP : va_P D vwCl [(o, .inr (1, [.int (nI K), .int (nI R), .int (nI C), .null, .null, .null, .null, .null, .int 0, .null, .null, .null])), (su, .inr (0, [.ref sa, .ref sb, .ref sc])), (sa, .inl (cI, S + 1, .inl (fun _ => 0))), (sb, .inl (cI, K, .inl (fun _ => 0))), (sc, .inl (cI, K, .inl (fun _ => 0)))] H := hP
  have hD : va_D A [(o, .inr (1, [.int (nI K), .int (nI R), .int (nI C), .null, .null, .null, .null, .null, .int 0, .null, .null, .null])), (su, .inr (0, [.ref sa, .ref sb, .ref sc])), (sa, .inl (cI, S + 1, .inl (fun _ => 0))), (sb, .inl (cI, K, .inl (fun _ => 0))), (sc, .inl (cI, K, .inl (fun _ => 0)))] := hD
  refine W.widen (k := 4) (n := 2103) (by omega) (by omega) ?_
  refine va_put (D := D) (ci := 1) (v := .ref su) (ty := .object "RowSparse$Support") (C := RX1) (T := TX1) (N := 12) hx hb hts hin1 tyX1 tyX1_ok nmX1 hown hK hP hD hS 0 rfl rfl 3 (by decide) f33 (fun _ h9 => h9) rfl (by decide +kernel) rfl rfl (Nat.le_of_ble_eq_true rfl) dX1_init_62 (fun H locs hP hD hS => ?_)
  have hP : va_P D vwCl [(o, .inr (1, [.int (nI K), .int (nI R), .int (nI C), .ref su, .null, .null, .null, .null, .int 0, .null, .null, .null])), (su, .inr (0, [.ref sa, .ref sb, .ref sc])), (sa, .inl (cI, S + 1, .inl (fun _ => 0))), (sb, .inl (cI, K, .inl (fun _ => 0))), (sc, .inl (cI, K, .inl (fun _ => 0)))] H := hP
  have hD : va_D A [(o, .inr (1, [.int (nI K), .int (nI R), .int (nI C), .ref su, .null, .null, .null, .null, .int 0, .null, .null, .null])), (su, .inr (0, [.ref sa, .ref sb, .ref sc])), (sa, .inl (cI, S + 1, .inl (fun _ => 0))), (sb, .inl (cI, K, .inl (fun _ => 0))), (sc, .inl (cI, K, .inl (fun _ => 0)))] := hD
  refine lv_aload_n hx hb dX1_init_65 rfl (lv_at hl 1 rfl) ?_
  refine va_new (ci := 0) (fs := [.null, .null, .null]) (C := RX0) (T := TX0) (N := 3) hx hb hts hin0 tyX0 tyX0_ok hown (hts (.classLink RX1 28 RX0) (by decide +kernel)) (hts (.instantiable RX0 3) (by decide +kernel)) (hts (.initialized RX0) (by decide +kernel)) hK hP hD hS hA rfl (fun j hj => by rcases (show j = 0 ∨ j = 1 ∨ j = 2 by omega) with rfl | rfl | rfl <;> rfl) (show 4 + 1 ≤ 14 by omega) (show 2103 + 3 ≤ 8000 by omega) dX1_init_66 (fun sp H hP hD hS => ?_)
  have hP : va_P D vwCl [(o, .inr (1, [.int (nI K), .int (nI R), .int (nI C), .ref su, .null, .null, .null, .null, .int 0, .null, .null, .null])), (su, .inr (0, [.ref sa, .ref sb, .ref sc])), (sa, .inl (cI, S + 1, .inl (fun _ => 0))), (sb, .inl (cI, K, .inl (fun _ => 0))), (sc, .inl (cI, K, .inl (fun _ => 0))), (sp, .inr (0, [.null, .null, .null]))] H := hP
  have hD : va_D A [(o, .inr (1, [.int (nI K), .int (nI R), .int (nI C), .ref su, .null, .null, .null, .null, .int 0, .null, .null, .null])), (su, .inr (0, [.ref sa, .ref sb, .ref sc])), (sa, .inl (cI, S + 1, .inl (fun _ => 0))), (sb, .inl (cI, K, .inl (fun _ => 0))), (sc, .inl (cI, K, .inl (fun _ => 0))), (sp, .inr (0, [.null, .null, .null]))] := hD
  refine W.widen (k := 5) (n := 2106) (by omega) (by omega) ?_
  refine lv_dup hx hb dX1_init_69 rfl ?_
  refine lv_iload hx hb dX1_init_70 (lv_at hl 0 rfl) ?_
  refine lv_aload_n hx hb dX1_init_72 rfl (lv_at hl 1 rfl) ?_
  refine va_get (D := D) (ci := 1) (v := .int (nI K)) (C := RX1) (T := TX1) (N := 12) hx hb hts hin1 hown hK hP 0 rfl rfl 0 (by decide) f20 (fun _ h9 => h9) rfl dX1_init_73 ?_
  refine rs_cVN (As := [.int (nI S), .int (nI K)]) (rest := [.ref sp, .ref o]) (WR := [(o, .inr (1, [.int (nI K), .int (nI R), .int (nI C), .ref su, .null, .null, .null, .null, .int 0, .null, .null, .null])), (su, .inr (0, [.ref sa, .ref sb, .ref sc])), (sa, .inl (cI, S + 1, .inl (fun _ => 0))), (sb, .inl (cI, K, .inl (fun _ => 0))), (sc, .inl (cI, K, .inl (fun _ => 0)))]) ⟨hx, hb, hml, hown, hts⟩ hl.1 (c_Sinit l D cI sp S K (by omega) (by omega)) (cwI 2 hts gX1_init_X0_init rfl rfl rfl (hts (.initialized RX0) (by decide +kernel)) (hts (.methodLink RX1 30 yX0_init) (by decide +kernel)) (hts (.instanceMethod yX0_init) (by decide +kernel)) rfl (by decide +kernel) ⟨Nat.le_of_ble_eq_true rfl, Nat.le_of_ble_eq_true rfl⟩) hK hP hD hS hA [5] [0, 1, 2, 3, 4] rfl rfl (by decide) (by decide) (by decide) rfl rfl (Nat.le_of_ble_eq_true rfl) dX1_init_76 (Nat.le_of_ble_eq_true rfl) (Nat.le_of_ble_eq_true rfl) (fun u H locs hu hP hD hS => ?_)
  obtain ⟨ta, tb, tc⟩ := u
  have hP : va_P D vwCl [(o, .inr (1, [.int (nI K), .int (nI R), .int (nI C), .ref su, .null, .null, .null, .null, .int 0, .null, .null, .null])), (su, .inr (0, [.ref sa, .ref sb, .ref sc])), (sa, .inl (cI, S + 1, .inl (fun _ => 0))), (sb, .inl (cI, K, .inl (fun _ => 0))), (sc, .inl (cI, K, .inl (fun _ => 0))), (sp, .inr (0, [.ref ta, .ref tb, .ref tc])), (ta, .inl (cI, S + 1, .inl (fun _ => 0))), (tb, .inl (cI, K, .inl (fun _ => 0))), (tc, .inl (cI, K, .inl (fun _ => 0)))] H := hP
  have hD : va_D A [(o, .inr (1, [.int (nI K), .int (nI R), .int (nI C), .ref su, .null, .null, .null, .null, .int 0, .null, .null, .null])), (su, .inr (0, [.ref sa, .ref sb, .ref sc])), (sa, .inl (cI, S + 1, .inl (fun _ => 0))), (sb, .inl (cI, K, .inl (fun _ => 0))), (sc, .inl (cI, K, .inl (fun _ => 0))), (sp, .inr (0, [.ref ta, .ref tb, .ref tc])), (ta, .inl (cI, S + 1, .inl (fun _ => 0))), (tb, .inl (cI, K, .inl (fun _ => 0))), (tc, .inl (cI, K, .inl (fun _ => 0)))] := hD
  refine W.widen (k := 8) (n := 4206) (by omega) (by omega) ?_
  refine va_put (D := D) (ci := 1) (v := .ref sp) (ty := .object "RowSparse$Support") (C := RX1) (T := TX1) (N := 12) hx hb hts hin1 tyX1 tyX1_ok nmX1 hown hK hP hD hS 0 rfl rfl 4 (by decide) f37 (fun _ h9 => h9) rfl (by decide +kernel) rfl rfl (Nat.le_of_ble_eq_true rfl) dX1_init_79 (fun H locs hP hD hS => ?_)
  have hP : va_P D vwCl [(o, .inr (1, [.int (nI K), .int (nI R), .int (nI C), .ref su, .ref sp, .null, .null, .null, .int 0, .null, .null, .null])), (su, .inr (0, [.ref sa, .ref sb, .ref sc])), (sa, .inl (cI, S + 1, .inl (fun _ => 0))), (sb, .inl (cI, K, .inl (fun _ => 0))), (sc, .inl (cI, K, .inl (fun _ => 0))), (sp, .inr (0, [.ref ta, .ref tb, .ref tc])), (ta, .inl (cI, S + 1, .inl (fun _ => 0))), (tb, .inl (cI, K, .inl (fun _ => 0))), (tc, .inl (cI, K, .inl (fun _ => 0)))] H := hP
  have hD : va_D A [(o, .inr (1, [.int (nI K), .int (nI R), .int (nI C), .ref su, .ref sp, .null, .null, .null, .int 0, .null, .null, .null])), (su, .inr (0, [.ref sa, .ref sb, .ref sc])), (sa, .inl (cI, S + 1, .inl (fun _ => 0))), (sb, .inl (cI, K, .inl (fun _ => 0))), (sc, .inl (cI, K, .inl (fun _ => 0))), (sp, .inr (0, [.ref ta, .ref tb, .ref tc])), (ta, .inl (cI, S + 1, .inl (fun _ => 0))), (tb, .inl (cI, K, .inl (fun _ => 0))), (tc, .inl (cI, K, .inl (fun _ => 0)))] := hD
  refine lv_aload_n hx hb dX1_init_82 rfl (lv_at hl 1 rfl) ?_
  refine lv_aload_n hx hb dX1_init_83 rfl (lv_at hl 1 rfl) ?_
  refine va_get (D := D) (ci := 1) (v := .int (nI K)) (C := RX1) (T := TX1) (N := 12) hx hb hts hin1 hown hK hP 0 rfl rfl 0 (by decide) f20 (fun _ h9 => h9) rfl dX1_init_84 ?_
  refine rs_newa (N := K) hx hb harr hK hP hD hS hA (by omega) (show 8 + 1 ≤ 14 by omega) (show 4206 + K ≤ 8000 by omega) dX1_init_87 (fun ar H hP hD hS => ?_)
  have hP : va_P D vwCl [(o, .inr (1, [.int (nI K), .int (nI R), .int (nI C), .ref su, .ref sp, .null, .null, .null, .int 0, .null, .null, .null])), (su, .inr (0, [.ref sa, .ref sb, .ref sc])), (sa, .inl (cI, S + 1, .inl (fun _ => 0))), (sb, .inl (cI, K, .inl (fun _ => 0))), (sc, .inl (cI, K, .inl (fun _ => 0))), (sp, .inr (0, [.ref ta, .ref tb, .ref tc])), (ta, .inl (cI, S + 1, .inl (fun _ => 0))), (tb, .inl (cI, K, .inl (fun _ => 0))), (tc, .inl (cI, K, .inl (fun _ => 0))), (ar, .inl (cI, K, .inl (fun _ => 0)))] H := hP
  have hD : va_D A [(o, .inr (1, [.int (nI K), .int (nI R), .int (nI C), .ref su, .ref sp, .null, .null, .null, .int 0, .null, .null, .null])), (su, .inr (0, [.ref sa, .ref sb, .ref sc])), (sa, .inl (cI, S + 1, .inl (fun _ => 0))), (sb, .inl (cI, K, .inl (fun _ => 0))), (sc, .inl (cI, K, .inl (fun _ => 0))), (sp, .inr (0, [.ref ta, .ref tb, .ref tc])), (ta, .inl (cI, S + 1, .inl (fun _ => 0))), (tb, .inl (cI, K, .inl (fun _ => 0))), (tc, .inl (cI, K, .inl (fun _ => 0))), (ar, .inl (cI, K, .inl (fun _ => 0)))] := hD
  refine W.widen (k := 9) (n := 5206) (by omega) (by omega) ?_
  refine va_putF (D := D) (ci := 1) (v := .ref ar) (ty := .array .int) (C := RX1) (T := TX1) (N := 12) hx hb hts hin1 tyX1 tyX1_ok nmX1 hown hK hP hD hS 0 rfl rfl 5 (by decide) f40 (fun _ h9 => h9) rfl hin rfl (by decide +kernel) rfl rfl (Nat.le_of_ble_eq_true rfl) dX1_init_89 (fun H locs hP hD hS => ?_)
  have hP : va_P D vwCl [(o, .inr (1, [.int (nI K), .int (nI R), .int (nI C), .ref su, .ref sp, .ref ar, .null, .null, .int 0, .null, .null, .null])), (su, .inr (0, [.ref sa, .ref sb, .ref sc])), (sa, .inl (cI, S + 1, .inl (fun _ => 0))), (sb, .inl (cI, K, .inl (fun _ => 0))), (sc, .inl (cI, K, .inl (fun _ => 0))), (sp, .inr (0, [.ref ta, .ref tb, .ref tc])), (ta, .inl (cI, S + 1, .inl (fun _ => 0))), (tb, .inl (cI, K, .inl (fun _ => 0))), (tc, .inl (cI, K, .inl (fun _ => 0))), (ar, .inl (cI, K, .inl (fun _ => 0)))] H := hP
  have hD : va_D A [(o, .inr (1, [.int (nI K), .int (nI R), .int (nI C), .ref su, .ref sp, .ref ar, .null, .null, .int 0, .null, .null, .null])), (su, .inr (0, [.ref sa, .ref sb, .ref sc])), (sa, .inl (cI, S + 1, .inl (fun _ => 0))), (sb, .inl (cI, K, .inl (fun _ => 0))), (sc, .inl (cI, K, .inl (fun _ => 0))), (sp, .inr (0, [.ref ta, .ref tb, .ref tc])), (ta, .inl (cI, S + 1, .inl (fun _ => 0))), (tb, .inl (cI, K, .inl (fun _ => 0))), (tc, .inl (cI, K, .inl (fun _ => 0))), (ar, .inl (cI, K, .inl (fun _ => 0)))] := hD
  refine lv_aload_n hx hb dX1_init_92 rfl (lv_at hl 1 rfl) ?_
  refine lv_aload_n hx hb dX1_init_93 rfl (lv_at hl 1 rfl) ?_
  refine va_get (D := D) (ci := 1) (v := .int (nI K)) (C := RX1) (T := TX1) (N := 12) hx hb hts hin1 hown hK hP 0 rfl rfl 0 (by decide) f20 (fun _ h9 => h9) rfl dX1_init_94 ?_
  refine rs_newa (N := K) hx hb harr hK hP hD hS hA (by omega) (show 9 + 1 ≤ 14 by omega) (show 5206 + K ≤ 8000 by omega) dX1_init_97 (fun ac H hP hD hS => ?_)
  have hP : va_P D vwCl [(o, .inr (1, [.int (nI K), .int (nI R), .int (nI C), .ref su, .ref sp, .ref ar, .null, .null, .int 0, .null, .null, .null])), (su, .inr (0, [.ref sa, .ref sb, .ref sc])), (sa, .inl (cI, S + 1, .inl (fun _ => 0))), (sb, .inl (cI, K, .inl (fun _ => 0))), (sc, .inl (cI, K, .inl (fun _ => 0))), (sp, .inr (0, [.ref ta, .ref tb, .ref tc])), (ta, .inl (cI, S + 1, .inl (fun _ => 0))), (tb, .inl (cI, K, .inl (fun _ => 0))), (tc, .inl (cI, K, .inl (fun _ => 0))), (ar, .inl (cI, K, .inl (fun _ => 0))), (ac, .inl (cI, K, .inl (fun _ => 0)))] H := hP
  have hD : va_D A [(o, .inr (1, [.int (nI K), .int (nI R), .int (nI C), .ref su, .ref sp, .ref ar, .null, .null, .int 0, .null, .null, .null])), (su, .inr (0, [.ref sa, .ref sb, .ref sc])), (sa, .inl (cI, S + 1, .inl (fun _ => 0))), (sb, .inl (cI, K, .inl (fun _ => 0))), (sc, .inl (cI, K, .inl (fun _ => 0))), (sp, .inr (0, [.ref ta, .ref tb, .ref tc])), (ta, .inl (cI, S + 1, .inl (fun _ => 0))), (tb, .inl (cI, K, .inl (fun _ => 0))), (tc, .inl (cI, K, .inl (fun _ => 0))), (ar, .inl (cI, K, .inl (fun _ => 0))), (ac, .inl (cI, K, .inl (fun _ => 0)))] := hD
  refine W.widen (k := 10) (n := 6206) (by omega) (by omega) ?_
  refine va_putF (D := D) (ci := 1) (v := .ref ac) (ty := .array .int) (C := RX1) (T := TX1) (N := 12) hx hb hts hin1 tyX1 tyX1_ok nmX1 hown hK hP hD hS 0 rfl rfl 6 (by decide) f44 (fun _ h9 => h9) rfl hin rfl (by decide +kernel) rfl rfl (Nat.le_of_ble_eq_true rfl) dX1_init_99 (fun H locs hP hD hS => ?_)
  have hP : va_P D vwCl [(o, .inr (1, [.int (nI K), .int (nI R), .int (nI C), .ref su, .ref sp, .ref ar, .ref ac, .null, .int 0, .null, .null, .null])), (su, .inr (0, [.ref sa, .ref sb, .ref sc])), (sa, .inl (cI, S + 1, .inl (fun _ => 0))), (sb, .inl (cI, K, .inl (fun _ => 0))), (sc, .inl (cI, K, .inl (fun _ => 0))), (sp, .inr (0, [.ref ta, .ref tb, .ref tc])), (ta, .inl (cI, S + 1, .inl (fun _ => 0))), (tb, .inl (cI, K, .inl (fun _ => 0))), (tc, .inl (cI, K, .inl (fun _ => 0))), (ar, .inl (cI, K, .inl (fun _ => 0))), (ac, .inl (cI, K, .inl (fun _ => 0)))] H := hP
  have hD : va_D A [(o, .inr (1, [.int (nI K), .int (nI R), .int (nI C), .ref su, .ref sp, .ref ar, .ref ac, .null, .int 0, .null, .null, .null])), (su, .inr (0, [.ref sa, .ref sb, .ref sc])), (sa, .inl (cI, S + 1, .inl (fun _ => 0))), (sb, .inl (cI, K, .inl (fun _ => 0))), (sc, .inl (cI, K, .inl (fun _ => 0))), (sp, .inr (0, [.ref ta, .ref tb, .ref tc])), (ta, .inl (cI, S + 1, .inl (fun _ => 0))), (tb, .inl (cI, K, .inl (fun _ => 0))), (tc, .inl (cI, K, .inl (fun _ => 0))), (ar, .inl (cI, K, .inl (fun _ => 0))), (ac, .inl (cI, K, .inl (fun _ => 0)))] := hD
  refine lv_aload_n hx hb dX1_init_102 rfl (lv_at hl 1 rfl) ?_
  refine lv_aload_n hx hb dX1_init_103 rfl (lv_at hl 1 rfl) ?_
  refine va_get (D := D) (ci := 1) (v := .int (nI K)) (C := RX1) (T := TX1) (N := 12) hx hb hts hin1 hown hK hP 0 rfl rfl 0 (by decide) f20 (fun _ h9 => h9) rfl dX1_init_104 ?_
  refine rs_newa (N := K) hx hb harr hK hP hD hS hA (by omega) (show 10 + 1 ≤ 14 by omega) (show 6206 + K ≤ 8000 by omega) dX1_init_107 (fun av H hP hD hS => ?_)
  have hP : va_P D vwCl [(o, .inr (1, [.int (nI K), .int (nI R), .int (nI C), .ref su, .ref sp, .ref ar, .ref ac, .null, .int 0, .null, .null, .null])), (su, .inr (0, [.ref sa, .ref sb, .ref sc])), (sa, .inl (cI, S + 1, .inl (fun _ => 0))), (sb, .inl (cI, K, .inl (fun _ => 0))), (sc, .inl (cI, K, .inl (fun _ => 0))), (sp, .inr (0, [.ref ta, .ref tb, .ref tc])), (ta, .inl (cI, S + 1, .inl (fun _ => 0))), (tb, .inl (cI, K, .inl (fun _ => 0))), (tc, .inl (cI, K, .inl (fun _ => 0))), (ar, .inl (cI, K, .inl (fun _ => 0))), (ac, .inl (cI, K, .inl (fun _ => 0))), (av, .inl (cI, K, .inl (fun _ => 0)))] H := hP
  have hD : va_D A [(o, .inr (1, [.int (nI K), .int (nI R), .int (nI C), .ref su, .ref sp, .ref ar, .ref ac, .null, .int 0, .null, .null, .null])), (su, .inr (0, [.ref sa, .ref sb, .ref sc])), (sa, .inl (cI, S + 1, .inl (fun _ => 0))), (sb, .inl (cI, K, .inl (fun _ => 0))), (sc, .inl (cI, K, .inl (fun _ => 0))), (sp, .inr (0, [.ref ta, .ref tb, .ref tc])), (ta, .inl (cI, S + 1, .inl (fun _ => 0))), (tb, .inl (cI, K, .inl (fun _ => 0))), (tc, .inl (cI, K, .inl (fun _ => 0))), (ar, .inl (cI, K, .inl (fun _ => 0))), (ac, .inl (cI, K, .inl (fun _ => 0))), (av, .inl (cI, K, .inl (fun _ => 0)))] := hD
  refine W.widen (k := 11) (n := 7206) (by omega) (by omega) ?_
  refine va_putF (D := D) (ci := 1) (v := .ref av) (ty := .array .int) (C := RX1) (T := TX1) (N := 12) hx hb hts hin1 tyX1 tyX1_ok nmX1 hown hK hP hD hS 0 rfl rfl 7 (by decide) f47 (fun _ h9 => h9) rfl hin rfl (by decide +kernel) rfl rfl (Nat.le_of_ble_eq_true rfl) dX1_init_109 (fun H locs hP hD hS => ?_)
  have hP : va_P D vwCl [(o, .inr (1, [.int (nI K), .int (nI R), .int (nI C), .ref su, .ref sp, .ref ar, .ref ac, .ref av, .int 0, .null, .null, .null])), (su, .inr (0, [.ref sa, .ref sb, .ref sc])), (sa, .inl (cI, S + 1, .inl (fun _ => 0))), (sb, .inl (cI, K, .inl (fun _ => 0))), (sc, .inl (cI, K, .inl (fun _ => 0))), (sp, .inr (0, [.ref ta, .ref tb, .ref tc])), (ta, .inl (cI, S + 1, .inl (fun _ => 0))), (tb, .inl (cI, K, .inl (fun _ => 0))), (tc, .inl (cI, K, .inl (fun _ => 0))), (ar, .inl (cI, K, .inl (fun _ => 0))), (ac, .inl (cI, K, .inl (fun _ => 0))), (av, .inl (cI, K, .inl (fun _ => 0)))] H := hP
  have hD : va_D A [(o, .inr (1, [.int (nI K), .int (nI R), .int (nI C), .ref su, .ref sp, .ref ar, .ref ac, .ref av, .int 0, .null, .null, .null])), (su, .inr (0, [.ref sa, .ref sb, .ref sc])), (sa, .inl (cI, S + 1, .inl (fun _ => 0))), (sb, .inl (cI, K, .inl (fun _ => 0))), (sc, .inl (cI, K, .inl (fun _ => 0))), (sp, .inr (0, [.ref ta, .ref tb, .ref tc])), (ta, .inl (cI, S + 1, .inl (fun _ => 0))), (tb, .inl (cI, K, .inl (fun _ => 0))), (tc, .inl (cI, K, .inl (fun _ => 0))), (ar, .inl (cI, K, .inl (fun _ => 0))), (ac, .inl (cI, K, .inl (fun _ => 0))), (av, .inl (cI, K, .inl (fun _ => 0)))] := hD
  refine lv_aload_n hx hb dX1_init_112 rfl (lv_at hl 1 rfl) ?_
  refine lv_iconst (v := nI 0) hx hb dX1_init_113 (by decide +kernel) ?_
  refine va_put (D := D) (ci := 1) (v := .int (nI 0)) (ty := .int) (C := RX1) (T := TX1) (N := 12) hx hb hts hin1 tyX1 tyX1_ok nmX1 hown hK hP hD hS 0 rfl rfl 8 (by decide) f50 (fun _ h9 => h9) rfl (by decide +kernel) rfl rfl (Nat.le_of_ble_eq_true rfl) dX1_init_114 (fun H locs hP hD hS => ?_)
  have hP : va_P D vwCl [(o, .inr (1, [.int (nI K), .int (nI R), .int (nI C), .ref su, .ref sp, .ref ar, .ref ac, .ref av, .int (nI 0), .null, .null, .null])), (su, .inr (0, [.ref sa, .ref sb, .ref sc])), (sa, .inl (cI, S + 1, .inl (fun _ => 0))), (sb, .inl (cI, K, .inl (fun _ => 0))), (sc, .inl (cI, K, .inl (fun _ => 0))), (sp, .inr (0, [.ref ta, .ref tb, .ref tc])), (ta, .inl (cI, S + 1, .inl (fun _ => 0))), (tb, .inl (cI, K, .inl (fun _ => 0))), (tc, .inl (cI, K, .inl (fun _ => 0))), (ar, .inl (cI, K, .inl (fun _ => 0))), (ac, .inl (cI, K, .inl (fun _ => 0))), (av, .inl (cI, K, .inl (fun _ => 0)))] H := hP
  have hD : va_D A [(o, .inr (1, [.int (nI K), .int (nI R), .int (nI C), .ref su, .ref sp, .ref ar, .ref ac, .ref av, .int (nI 0), .null, .null, .null])), (su, .inr (0, [.ref sa, .ref sb, .ref sc])), (sa, .inl (cI, S + 1, .inl (fun _ => 0))), (sb, .inl (cI, K, .inl (fun _ => 0))), (sc, .inl (cI, K, .inl (fun _ => 0))), (sp, .inr (0, [.ref ta, .ref tb, .ref tc])), (ta, .inl (cI, S + 1, .inl (fun _ => 0))), (tb, .inl (cI, K, .inl (fun _ => 0))), (tc, .inl (cI, K, .inl (fun _ => 0))), (ar, .inl (cI, K, .inl (fun _ => 0))), (ac, .inl (cI, K, .inl (fun _ => 0))), (av, .inl (cI, K, .inl (fun _ => 0)))] := hD
  refine lv_aload_n hx hb dX1_init_117 rfl (lv_at hl 1 rfl) ?_
  refine lv_iload hx hb dX1_init_118 (lv_at hl 0 rfl) ?_
  refine rs_newa (N := S) hx hb harr hK hP hD hS hA (by omega) (show 11 + 1 ≤ 14 by omega) (show 7206 + S ≤ 8000 by omega) dX1_init_120 (fun vx H hP hD hS => ?_)
  have hP : va_P D vwCl [(o, .inr (1, [.int (nI K), .int (nI R), .int (nI C), .ref su, .ref sp, .ref ar, .ref ac, .ref av, .int (nI 0), .null, .null, .null])), (su, .inr (0, [.ref sa, .ref sb, .ref sc])), (sa, .inl (cI, S + 1, .inl (fun _ => 0))), (sb, .inl (cI, K, .inl (fun _ => 0))), (sc, .inl (cI, K, .inl (fun _ => 0))), (sp, .inr (0, [.ref ta, .ref tb, .ref tc])), (ta, .inl (cI, S + 1, .inl (fun _ => 0))), (tb, .inl (cI, K, .inl (fun _ => 0))), (tc, .inl (cI, K, .inl (fun _ => 0))), (ar, .inl (cI, K, .inl (fun _ => 0))), (ac, .inl (cI, K, .inl (fun _ => 0))), (av, .inl (cI, K, .inl (fun _ => 0))), (vx, .inl (cI, S, .inl (fun _ => 0)))] H := hP
  have hD : va_D A [(o, .inr (1, [.int (nI K), .int (nI R), .int (nI C), .ref su, .ref sp, .ref ar, .ref ac, .ref av, .int (nI 0), .null, .null, .null])), (su, .inr (0, [.ref sa, .ref sb, .ref sc])), (sa, .inl (cI, S + 1, .inl (fun _ => 0))), (sb, .inl (cI, K, .inl (fun _ => 0))), (sc, .inl (cI, K, .inl (fun _ => 0))), (sp, .inr (0, [.ref ta, .ref tb, .ref tc])), (ta, .inl (cI, S + 1, .inl (fun _ => 0))), (tb, .inl (cI, K, .inl (fun _ => 0))), (tc, .inl (cI, K, .inl (fun _ => 0))), (ar, .inl (cI, K, .inl (fun _ => 0))), (ac, .inl (cI, K, .inl (fun _ => 0))), (av, .inl (cI, K, .inl (fun _ => 0))), (vx, .inl (cI, S, .inl (fun _ => 0)))] := hD
  refine W.widen (k := 12) (n := 7266) (by omega) (by omega) ?_
  refine va_putF (D := D) (ci := 1) (v := .ref vx) (ty := .array .int) (C := RX1) (T := TX1) (N := 12) hx hb hts hin1 tyX1 tyX1_ok nmX1 hown hK hP hD hS 0 rfl rfl 9 (by decide) f53 (fun _ h9 => h9) rfl hin rfl (by decide +kernel) rfl rfl (Nat.le_of_ble_eq_true rfl) dX1_init_122 (fun H locs hP hD hS => ?_)
  have hP : va_P D vwCl [(o, .inr (1, [.int (nI K), .int (nI R), .int (nI C), .ref su, .ref sp, .ref ar, .ref ac, .ref av, .int (nI 0), .ref vx, .null, .null])), (su, .inr (0, [.ref sa, .ref sb, .ref sc])), (sa, .inl (cI, S + 1, .inl (fun _ => 0))), (sb, .inl (cI, K, .inl (fun _ => 0))), (sc, .inl (cI, K, .inl (fun _ => 0))), (sp, .inr (0, [.ref ta, .ref tb, .ref tc])), (ta, .inl (cI, S + 1, .inl (fun _ => 0))), (tb, .inl (cI, K, .inl (fun _ => 0))), (tc, .inl (cI, K, .inl (fun _ => 0))), (ar, .inl (cI, K, .inl (fun _ => 0))), (ac, .inl (cI, K, .inl (fun _ => 0))), (av, .inl (cI, K, .inl (fun _ => 0))), (vx, .inl (cI, S, .inl (fun _ => 0)))] H := hP
  have hD : va_D A [(o, .inr (1, [.int (nI K), .int (nI R), .int (nI C), .ref su, .ref sp, .ref ar, .ref ac, .ref av, .int (nI 0), .ref vx, .null, .null])), (su, .inr (0, [.ref sa, .ref sb, .ref sc])), (sa, .inl (cI, S + 1, .inl (fun _ => 0))), (sb, .inl (cI, K, .inl (fun _ => 0))), (sc, .inl (cI, K, .inl (fun _ => 0))), (sp, .inr (0, [.ref ta, .ref tb, .ref tc])), (ta, .inl (cI, S + 1, .inl (fun _ => 0))), (tb, .inl (cI, K, .inl (fun _ => 0))), (tc, .inl (cI, K, .inl (fun _ => 0))), (ar, .inl (cI, K, .inl (fun _ => 0))), (ac, .inl (cI, K, .inl (fun _ => 0))), (av, .inl (cI, K, .inl (fun _ => 0))), (vx, .inl (cI, S, .inl (fun _ => 0)))] := hD
  refine lv_aload_n hx hb dX1_init_125 rfl (lv_at hl 1 rfl) ?_
  refine lv_iload hx hb dX1_init_126 (lv_at hl 0 rfl) ?_
  refine rs_newa (N := S) hx hb harr hK hP hD hS hA (by omega) (show 12 + 1 ≤ 14 by omega) (show 7266 + S ≤ 8000 by omega) dX1_init_128 (fun py H hP hD hS => ?_)
  have hP : va_P D vwCl [(o, .inr (1, [.int (nI K), .int (nI R), .int (nI C), .ref su, .ref sp, .ref ar, .ref ac, .ref av, .int (nI 0), .ref vx, .null, .null])), (su, .inr (0, [.ref sa, .ref sb, .ref sc])), (sa, .inl (cI, S + 1, .inl (fun _ => 0))), (sb, .inl (cI, K, .inl (fun _ => 0))), (sc, .inl (cI, K, .inl (fun _ => 0))), (sp, .inr (0, [.ref ta, .ref tb, .ref tc])), (ta, .inl (cI, S + 1, .inl (fun _ => 0))), (tb, .inl (cI, K, .inl (fun _ => 0))), (tc, .inl (cI, K, .inl (fun _ => 0))), (ar, .inl (cI, K, .inl (fun _ => 0))), (ac, .inl (cI, K, .inl (fun _ => 0))), (av, .inl (cI, K, .inl (fun _ => 0))), (vx, .inl (cI, S, .inl (fun _ => 0))), (py, .inl (cI, S, .inl (fun _ => 0)))] H := hP
  have hD : va_D A [(o, .inr (1, [.int (nI K), .int (nI R), .int (nI C), .ref su, .ref sp, .ref ar, .ref ac, .ref av, .int (nI 0), .ref vx, .null, .null])), (su, .inr (0, [.ref sa, .ref sb, .ref sc])), (sa, .inl (cI, S + 1, .inl (fun _ => 0))), (sb, .inl (cI, K, .inl (fun _ => 0))), (sc, .inl (cI, K, .inl (fun _ => 0))), (sp, .inr (0, [.ref ta, .ref tb, .ref tc])), (ta, .inl (cI, S + 1, .inl (fun _ => 0))), (tb, .inl (cI, K, .inl (fun _ => 0))), (tc, .inl (cI, K, .inl (fun _ => 0))), (ar, .inl (cI, K, .inl (fun _ => 0))), (ac, .inl (cI, K, .inl (fun _ => 0))), (av, .inl (cI, K, .inl (fun _ => 0))), (vx, .inl (cI, S, .inl (fun _ => 0))), (py, .inl (cI, S, .inl (fun _ => 0)))] := hD
  refine W.widen (k := 13) (n := 7326) (by omega) (by omega) ?_
  refine va_putF (D := D) (ci := 1) (v := .ref py) (ty := .array .int) (C := RX1) (T := TX1) (N := 12) hx hb hts hin1 tyX1 tyX1_ok nmX1 hown hK hP hD hS 0 rfl rfl 10 (by decide) f56 (fun _ h9 => h9) rfl hin rfl (by decide +kernel) rfl rfl (Nat.le_of_ble_eq_true rfl) dX1_init_130 (fun H locs hP hD hS => ?_)
  have hP : va_P D vwCl [(o, .inr (1, [.int (nI K), .int (nI R), .int (nI C), .ref su, .ref sp, .ref ar, .ref ac, .ref av, .int (nI 0), .ref vx, .ref py, .null])), (su, .inr (0, [.ref sa, .ref sb, .ref sc])), (sa, .inl (cI, S + 1, .inl (fun _ => 0))), (sb, .inl (cI, K, .inl (fun _ => 0))), (sc, .inl (cI, K, .inl (fun _ => 0))), (sp, .inr (0, [.ref ta, .ref tb, .ref tc])), (ta, .inl (cI, S + 1, .inl (fun _ => 0))), (tb, .inl (cI, K, .inl (fun _ => 0))), (tc, .inl (cI, K, .inl (fun _ => 0))), (ar, .inl (cI, K, .inl (fun _ => 0))), (ac, .inl (cI, K, .inl (fun _ => 0))), (av, .inl (cI, K, .inl (fun _ => 0))), (vx, .inl (cI, S, .inl (fun _ => 0))), (py, .inl (cI, S, .inl (fun _ => 0)))] H := hP
  have hD : va_D A [(o, .inr (1, [.int (nI K), .int (nI R), .int (nI C), .ref su, .ref sp, .ref ar, .ref ac, .ref av, .int (nI 0), .ref vx, .ref py, .null])), (su, .inr (0, [.ref sa, .ref sb, .ref sc])), (sa, .inl (cI, S + 1, .inl (fun _ => 0))), (sb, .inl (cI, K, .inl (fun _ => 0))), (sc, .inl (cI, K, .inl (fun _ => 0))), (sp, .inr (0, [.ref ta, .ref tb, .ref tc])), (ta, .inl (cI, S + 1, .inl (fun _ => 0))), (tb, .inl (cI, K, .inl (fun _ => 0))), (tc, .inl (cI, K, .inl (fun _ => 0))), (ar, .inl (cI, K, .inl (fun _ => 0))), (ac, .inl (cI, K, .inl (fun _ => 0))), (av, .inl (cI, K, .inl (fun _ => 0))), (vx, .inl (cI, S, .inl (fun _ => 0))), (py, .inl (cI, S, .inl (fun _ => 0)))] := hD
  refine lv_aload_n hx hb dX1_init_133 rfl (lv_at hl 1 rfl) ?_
  refine lv_iload hx hb dX1_init_134 (lv_at hl 0 rfl) ?_
  refine rs_newa (N := S) hx hb harr hK hP hD hS hA (by omega) (show 13 + 1 ≤ 14 by omega) (show 7326 + S ≤ 8000 by omega) dX1_init_136 (fun li H hP hD hS => ?_)
  have hP : va_P D vwCl [(o, .inr (1, [.int (nI K), .int (nI R), .int (nI C), .ref su, .ref sp, .ref ar, .ref ac, .ref av, .int (nI 0), .ref vx, .ref py, .null])), (su, .inr (0, [.ref sa, .ref sb, .ref sc])), (sa, .inl (cI, S + 1, .inl (fun _ => 0))), (sb, .inl (cI, K, .inl (fun _ => 0))), (sc, .inl (cI, K, .inl (fun _ => 0))), (sp, .inr (0, [.ref ta, .ref tb, .ref tc])), (ta, .inl (cI, S + 1, .inl (fun _ => 0))), (tb, .inl (cI, K, .inl (fun _ => 0))), (tc, .inl (cI, K, .inl (fun _ => 0))), (ar, .inl (cI, K, .inl (fun _ => 0))), (ac, .inl (cI, K, .inl (fun _ => 0))), (av, .inl (cI, K, .inl (fun _ => 0))), (vx, .inl (cI, S, .inl (fun _ => 0))), (py, .inl (cI, S, .inl (fun _ => 0))), (li, .inl (cI, S, .inl (fun _ => 0)))] H := hP
  have hD : va_D A [(o, .inr (1, [.int (nI K), .int (nI R), .int (nI C), .ref su, .ref sp, .ref ar, .ref ac, .ref av, .int (nI 0), .ref vx, .ref py, .null])), (su, .inr (0, [.ref sa, .ref sb, .ref sc])), (sa, .inl (cI, S + 1, .inl (fun _ => 0))), (sb, .inl (cI, K, .inl (fun _ => 0))), (sc, .inl (cI, K, .inl (fun _ => 0))), (sp, .inr (0, [.ref ta, .ref tb, .ref tc])), (ta, .inl (cI, S + 1, .inl (fun _ => 0))), (tb, .inl (cI, K, .inl (fun _ => 0))), (tc, .inl (cI, K, .inl (fun _ => 0))), (ar, .inl (cI, K, .inl (fun _ => 0))), (ac, .inl (cI, K, .inl (fun _ => 0))), (av, .inl (cI, K, .inl (fun _ => 0))), (vx, .inl (cI, S, .inl (fun _ => 0))), (py, .inl (cI, S, .inl (fun _ => 0))), (li, .inl (cI, S, .inl (fun _ => 0)))] := hD
  refine W.widen (k := 14) (n := 7386) (by omega) (by omega) ?_
  refine va_putF (D := D) (ci := 1) (v := .ref li) (ty := .array .int) (C := RX1) (T := TX1) (N := 12) hx hb hts hin1 tyX1 tyX1_ok nmX1 hown hK hP hD hS 0 rfl rfl 11 (by decide) f59 (fun _ h9 => h9) rfl hin rfl (by decide +kernel) rfl rfl (Nat.le_of_ble_eq_true rfl) dX1_init_138 (fun H locs hP hD hS => ?_)
  have hP : va_P D vwCl [(o, .inr (1, [.int (nI K), .int (nI R), .int (nI C), .ref su, .ref sp, .ref ar, .ref ac, .ref av, .int (nI 0), .ref vx, .ref py, .ref li])), (su, .inr (0, [.ref sa, .ref sb, .ref sc])), (sa, .inl (cI, S + 1, .inl (fun _ => 0))), (sb, .inl (cI, K, .inl (fun _ => 0))), (sc, .inl (cI, K, .inl (fun _ => 0))), (sp, .inr (0, [.ref ta, .ref tb, .ref tc])), (ta, .inl (cI, S + 1, .inl (fun _ => 0))), (tb, .inl (cI, K, .inl (fun _ => 0))), (tc, .inl (cI, K, .inl (fun _ => 0))), (ar, .inl (cI, K, .inl (fun _ => 0))), (ac, .inl (cI, K, .inl (fun _ => 0))), (av, .inl (cI, K, .inl (fun _ => 0))), (vx, .inl (cI, S, .inl (fun _ => 0))), (py, .inl (cI, S, .inl (fun _ => 0))), (li, .inl (cI, S, .inl (fun _ => 0)))] H := hP
  have hD : va_D A [(o, .inr (1, [.int (nI K), .int (nI R), .int (nI C), .ref su, .ref sp, .ref ar, .ref ac, .ref av, .int (nI 0), .ref vx, .ref py, .ref li])), (su, .inr (0, [.ref sa, .ref sb, .ref sc])), (sa, .inl (cI, S + 1, .inl (fun _ => 0))), (sb, .inl (cI, K, .inl (fun _ => 0))), (sc, .inl (cI, K, .inl (fun _ => 0))), (sp, .inr (0, [.ref ta, .ref tb, .ref tc])), (ta, .inl (cI, S + 1, .inl (fun _ => 0))), (tb, .inl (cI, K, .inl (fun _ => 0))), (tc, .inl (cI, K, .inl (fun _ => 0))), (ar, .inl (cI, K, .inl (fun _ => 0))), (ac, .inl (cI, K, .inl (fun _ => 0))), (av, .inl (cI, K, .inl (fun _ => 0))), (vx, .inl (cI, S, .inl (fun _ => 0))), (py, .inl (cI, S, .inl (fun _ => 0))), (li, .inl (cI, S, .inl (fun _ => 0)))] := hD
  refine W.widen (k := 14) (n := 8000) (by omega) (by omega) ?_
  exact ret _ _ _ _ ((ar, ac, av, vx, py, li), ((su, sa, sb, sc), (sp, ta, tb, tc), ((fun _ => 0), (fun _ => 0), (fun _ => 0)), ((fun _ => 0), (fun _ => 0), (fun _ => 0)), ((fun _ => 0), (fun _ => 0), (fun _ => 0)), ((fun _ => 0), (fun _ => 0), (fun _ => 0)))) dX1_init_141 (hr0) (hP.sub [0, 1, 2, 3, 4, 5, 6, 7, 8, 9, 10, 11, 12, 13, 14] rfl) (hD.sub [0, 1, 2, 3, 4, 5, 6, 7, 8, 9, 10, 11, 12, 13, 14] (by decide) rfl) hS

set_option maxHeartbeats 4000000 in
set_option maxRecDepth 100000 in
theorem d_init (l : Launch) (D : va_G) (cI : ClassId) (o : Nat) (rows cols cap : Int32) : MetV l yX2_init wsX2_init rm_M D [(cI, .int)] [.ref o, .int rows, .int cols, .int cap] [(o, .inr (2, [.int 0, .int 0, .int 0, .int 0, .null, .null, .null, .null, .null]))] (fun x : (Nat × Nat × Nat) × st_M => st_rm (st_0 rows cols cap) x.2) (fun x : (Nat × Nat × Nat) × st_M => st_wM cI o x.1.1 x.1.2.1 x.1.2.2 (st_0 rows cols cap) x.2) 5 11000 := by
  refine rs_V (cc := cX2_init) (maxL := 4) (by decide) rfl (Nat.le_of_ble_eq_true rfl) ?_
  intro p e s m args below meth c Q A ls hx hb hml hown hts hin hP hK hD hS hA hl ret
  have f7 := hts (.fieldLink RX2 7 "RowSparseModel" "table" "[I") (by decide +kernel)
  have f13 := hts (.fieldLink RX2 13 "RowSparseModel" "other" "[I") (by decide +kernel)
  have f16 := hts (.fieldLink RX2 16 "RowSparseModel" "more" "[I") (by decide +kernel)
  have f19 := hts (.fieldLink RX2 19 "RowSparseModel" "x" "[I") (by decide +kernel)
  have f22 := hts (.fieldLink RX2 22 "RowSparseModel" "y" "[I") (by decide +kernel)
  have f29 := hts (.fieldLink RX2 29 "RowSparseModel" "rows" "I") (by decide +kernel)
  have f33 := hts (.fieldLink RX2 33 "RowSparseModel" "cols" "I") (by decide +kernel)
  have f36 := hts (.fieldLink RX2 36 "RowSparseModel" "cap" "I") (by decide +kernel)
  have hin2 : ∀ w ∈ u_ws RX2 TX2 9, w ∈ wsX2_init := by decide +kernel
  have hl : lv_has ls 4 [(0, .ref o), (1, .int rows), (2, .int cols), (3, .int cap)] := hl
  have hP : va_P D vwCl [(o, .inr (2, [.int 0, .int 0, .int 0, .int 0, .null, .null, .null, .null, .null]))] s.heap := hP
  have hD : va_D A [(o, .inr (2, [.int 0, .int 0, .int 0, .int 0, .null, .null, .null, .null, .null]))] := hD
  have harr := hts (.arrayClass .int) (by decide +kernel)
  have hr0 := st_rm0 rows cols cap
  obtain ⟨R, eR⟩ : ∃ z, z = ms_cl rows 60 := ⟨_, rfl⟩
  obtain ⟨C, eC⟩ : ∃ z, z = ms_cl cols 60 := ⟨_, rfl⟩
  obtain ⟨K, eK⟩ : ∃ z, z = ms_cl cap 1000 := ⟨_, rfl⟩
  obtain ⟨S, eS⟩ : ∃ z, z = max R C := ⟨_, rfl⟩
  have e0 : st_0 rows cols cap = ((K, R, C, S, 0), (fun _ _ => 0), (fun _ _ => 0), (fun _ => 0), fun _ => 0) := by rw [eS, eK, eC, eR]; rfl
  rw [e0] at ret
  rw [← eR, ← eC, ← eK, ← eS] at hr0
  refine lv_aload_n hx hb dX2_init_0 rfl (lv_at hl 0 rfl) ?_
  refine W.objInit hx hb hown (hts (.methodLink RX2 1 objectInit) (by decide +kernel)) (hts (.instanceMethod objectInit) (by decide +kernel)) (hts (.code objectInit ⟨#[0xb1]⟩ 1 none) (by decide +kernel)) rfl (by rw [hml]; exact hl.1) rfl dX2_init_1 (Nat.le_of_ble_eq_true rfl) (Nat.le_of_ble_eq_true rfl) ?_
  refine W.eq (g2 := F0 m 4 ls []) rfl ?_
  refine lv_aload_n hx hb dX2_init_4 rfl (lv_at hl 0 rfl) ?_
  refine lv_sipush (v := nI 3600) hx hb dX2_init_5 (by decide +kernel) ?_
  refine rs_newa (N := 3600) hx hb harr hK hP hD hS hA (by omega) (show 0 + 1 ≤ 5 by omega) (show 0 + 3600 ≤ 11000 by omega) dX2_init_8 (fun ta H hP hD hS => ?_)
  have hP : va_P D vwCl [(o, .inr (2, [.int 0, .int 0, .int 0, .int 0, .null, .null, .null, .null, .null])), (ta, .inl (cI, 3600, .inl (fun _ => 0)))] H := hP
  have hD : va_D A [(o, .inr (2, [.int 0, .int 0, .int 0, .int 0, .null, .null, .null, .null, .null])), (ta, .inl (cI, 3600, .inl (fun _ => 0)))] := hD
  refine W.widen (k := 1) (n := 3600) (by omega) (by omega) ?_
  refine va_put (D := D) (ci := 2) (v := .ref ta) (ty := .array .int) (C := RX2) (T := TX2) (N := 9) hx hb hts hin2 tyX2 tyX2_ok nmX2 hown hK hP hD hS 0 rfl rfl 4 (by decide) f7 (fun _ h9 => h9) rfl (by decide +kernel) rfl rfl (Nat.le_of_ble_eq_true rfl) dX2_init_10 (fun H locs hP hD hS => ?_)
  have hP : va_P D vwCl [(o, .inr (2, [.int 0, .int 0, .int 0, .int 0, .ref ta, .null, .null, .null, .null])), (ta, .inl (cI, 3600, .inl (fun _ => 0)))] H := hP
  have hD : va_D A [(o, .inr (2, [.int 0, .int 0, .int 0, .int 0, .ref ta, .null, .null, .null, .null])), (ta, .inl (cI, 3600, .inl (fun _ => 0)))] := hD
  refine lv_aload_n hx hb dX2_init_13 rfl (lv_at hl 0 rfl) ?_
  refine lv_sipush (v := nI 3600) hx hb dX2_init_14 (by decide +kernel) ?_
  refine rs_newa (N := 3600) hx hb harr hK hP hD hS hA (by omega) (show 1 + 1 ≤ 5 by omega) (show 3600 + 3600 ≤ 11000 by omega) dX2_init_17 (fun ot H hP hD hS => ?_)
  have hP : va_P D vwCl [(o, .inr (2, [.int 0, .int 0, .int 0, .int 0, .ref ta, .null, .null, .null, .null])), (ta, .inl (cI, 3600, .inl (fun _ => 0))), (ot, .inl (cI, 3600, .inl (fun _ => 0)))] H := hP
  have hD : va_D A [(o, .inr (2, [.int 0, .int 0, .int 0, .int 0, .ref ta, .null, .null, .null, .null])), (ta, .inl (cI, 3600, .inl (fun _ => 0))), (ot, .inl (cI, 3600, .inl (fun _ => 0)))] := hD
  refine W.widen (k := 2) (n := 7200) (by omega) (by omega) ?_
  refine va_put (D := D) (ci := 2) (v := .ref ot) (ty := .array .int) (C := RX2) (T := TX2) (N := 9) hx hb hts hin2 tyX2 tyX2_ok nmX2 hown hK hP hD hS 0 rfl rfl 5 (by decide) f13 (fun _ h9 => h9) rfl (by decide +kernel) rfl rfl (Nat.le_of_ble_eq_true rfl) dX2_init_19 (fun H locs hP hD hS => ?_)
  have hP : va_P D vwCl [(o, .inr (2, [.int 0, .int 0, .int 0, .int 0, .ref ta, .ref ot, .null, .null, .null])), (ta, .inl (cI, 3600, .inl (fun _ => 0))), (ot, .inl (cI, 3600, .inl (fun _ => 0)))] H := hP
  have hD : va_D A [(o, .inr (2, [.int 0, .int 0, .int 0, .int 0, .ref ta, .ref ot, .null, .null, .null])), (ta, .inl (cI, 3600, .inl (fun _ => 0))), (ot, .inl (cI, 3600, .inl (fun _ => 0)))] := hD
  refine lv_aload_n hx hb dX2_init_22 rfl (lv_at hl 0 rfl) ?_
  refine lv_sipush (v := nI 3600) hx hb dX2_init_23 (by decide +kernel) ?_
  refine rs_newa (N := 3600) hx hb harr hK hP hD hS hA (by omega) (show 2 + 1 ≤ 5 by omega) (show 7200 + 3600 ≤ 11000 by omega) dX2_init_26 (fun mo H hP hD hS => ?_)
  have hP : va_P D vwCl [(o, .inr (2, [.int 0, .int 0, .int 0, .int 0, .ref ta, .ref ot, .null, .null, .null])), (ta, .inl (cI, 3600, .inl (fun _ => 0))), (ot, .inl (cI, 3600, .inl (fun _ => 0))), (mo, .inl (cI, 3600, .inl (fun _ => 0)))] H := hP
  have hD : va_D A [(o, .inr (2, [.int 0, .int 0, .int 0, .int 0, .ref ta, .ref ot, .null, .null, .null])), (ta, .inl (cI, 3600, .inl (fun _ => 0))), (ot, .inl (cI, 3600, .inl (fun _ => 0))), (mo, .inl (cI, 3600, .inl (fun _ => 0)))] := hD
  refine W.widen (k := 3) (n := 10800) (by omega) (by omega) ?_
  refine va_putF (D := D) (ci := 2) (v := .ref mo) (ty := .array .int) (C := RX2) (T := TX2) (N := 9) hx hb hts hin2 tyX2 tyX2_ok nmX2 hown hK hP hD hS 0 rfl rfl 6 (by decide) f16 (fun _ h9 => h9) rfl hin rfl (by decide +kernel) rfl rfl (Nat.le_of_ble_eq_true rfl) dX2_init_28 (fun H locs hP hD hS => ?_)
  have hP : va_P D vwCl [(o, .inr (2, [.int 0, .int 0, .int 0, .int 0, .ref ta, .ref ot, .ref mo, .null, .null])), (ta, .inl (cI, 3600, .inl (fun _ => 0))), (ot, .inl (cI, 3600, .inl (fun _ => 0))), (mo, .inl (cI, 3600, .inl (fun _ => 0)))] H := hP
  have hD : va_D A [(o, .inr (2, [.int 0, .int 0, .int 0, .int 0, .ref ta, .ref ot, .ref mo, .null, .null])), (ta, .inl (cI, 3600, .inl (fun _ => 0))), (ot, .inl (cI, 3600, .inl (fun _ => 0))), (mo, .inl (cI, 3600, .inl (fun _ => 0)))] := hD
  refine lv_aload_n hx hb dX2_init_31 rfl (lv_at hl 0 rfl) ?_
  refine lv_bipush (v := nI 60) hx hb dX2_init_32 (by decide +kernel) ?_
  refine rs_newa (N := 60) hx hb harr hK hP hD hS hA (by omega) (show 3 + 1 ≤ 5 by omega) (show 10800 + 60 ≤ 11000 by omega) dX2_init_34 (fun xx H hP hD hS => ?_)
  have hP : va_P D vwCl [(o, .inr (2, [.int 0, .int 0, .int 0, .int 0, .ref ta, .ref ot, .ref mo, .null, .null])), (ta, .inl (cI, 3600, .inl (fun _ => 0))), (ot, .inl (cI, 3600, .inl (fun _ => 0))), (mo, .inl (cI, 3600, .inl (fun _ => 0))), (xx, .inl (cI, 60, .inl (fun _ => 0)))] H := hP
  have hD : va_D A [(o, .inr (2, [.int 0, .int 0, .int 0, .int 0, .ref ta, .ref ot, .ref mo, .null, .null])), (ta, .inl (cI, 3600, .inl (fun _ => 0))), (ot, .inl (cI, 3600, .inl (fun _ => 0))), (mo, .inl (cI, 3600, .inl (fun _ => 0))), (xx, .inl (cI, 60, .inl (fun _ => 0)))] := hD
  refine W.widen (k := 4) (n := 10860) (by omega) (by omega) ?_
  refine va_putF (D := D) (ci := 2) (v := .ref xx) (ty := .array .int) (C := RX2) (T := TX2) (N := 9) hx hb hts hin2 tyX2 tyX2_ok nmX2 hown hK hP hD hS 0 rfl rfl 7 (by decide) f19 (fun _ h9 => h9) rfl hin rfl (by decide +kernel) rfl rfl (Nat.le_of_ble_eq_true rfl) dX2_init_36 (fun H locs hP hD hS => ?_)
  have hP : va_P D vwCl [(o, .inr (2, [.int 0, .int 0, .int 0, .int 0, .ref ta, .ref ot, .ref mo, .ref xx, .null])), (ta, .inl (cI, 3600, .inl (fun _ => 0))), (ot, .inl (cI, 3600, .inl (fun _ => 0))), (mo, .inl (cI, 3600, .inl (fun _ => 0))), (xx, .inl (cI, 60, .inl (fun _ => 0)))] H := hP
  have hD : va_D A [(o, .inr (2, [.int 0, .int 0, .int 0, .int 0, .ref ta, .ref ot, .ref mo, .ref xx, .null])), (ta, .inl (cI, 3600, .inl (fun _ => 0))), (ot, .inl (cI, 3600, .inl (fun _ => 0))), (mo, .inl (cI, 3600, .inl (fun _ => 0))), (xx, .inl (cI, 60, .inl (fun _ => 0)))] := hD
  refine lv_aload_n hx hb dX2_init_39 rfl (lv_at hl 0 rfl) ?_
  refine lv_bipush (v := nI 60) hx hb dX2_init_40 (by decide +kernel) ?_
  refine rs_newa (N := 60) hx hb harr hK hP hD hS hA (by omega) (show 4 + 1 ≤ 5 by omega) (show 10860 + 60 ≤ 11000 by omega) dX2_init_42 (fun yy H hP hD hS => ?_)
  have hP : va_P D vwCl [(o, .inr (2, [.int 0, .int 0, .int 0, .int 0, .ref ta, .ref ot, .ref mo, .ref xx, .null])), (ta, .inl (cI, 3600, .inl (fun _ => 0))), (ot, .inl (cI, 3600, .inl (fun _ => 0))), (mo, .inl (cI, 3600, .inl (fun _ => 0))), (xx, .inl (cI, 60, .inl (fun _ => 0))), (yy, .inl (cI, 60, .inl (fun _ => 0)))] H := hP
  have hD : va_D A [(o, .inr (2, [.int 0, .int 0, .int 0, .int 0, .ref ta, .ref ot, .ref mo, .ref xx, .null])), (ta, .inl (cI, 3600, .inl (fun _ => 0))), (ot, .inl (cI, 3600, .inl (fun _ => 0))), (mo, .inl (cI, 3600, .inl (fun _ => 0))), (xx, .inl (cI, 60, .inl (fun _ => 0))), (yy, .inl (cI, 60, .inl (fun _ => 0)))] := hD
  refine W.widen (k := 5) (n := 10920) (by omega) (by omega) ?_
  refine va_putF (D := D) (ci := 2) (v := .ref yy) (ty := .array .int) (C := RX2) (T := TX2) (N := 9) hx hb hts hin2 tyX2 tyX2_ok nmX2 hown hK hP hD hS 0 rfl rfl 8 (by decide) f22 (fun _ h9 => h9) rfl hin rfl (by decide +kernel) rfl rfl (Nat.le_of_ble_eq_true rfl) dX2_init_44 (fun H locs hP hD hS => ?_)
  have hP : va_P D vwCl [(o, .inr (2, [.int 0, .int 0, .int 0, .int 0, .ref ta, .ref ot, .ref mo, .ref xx, .ref yy])), (ta, .inl (cI, 3600, .inl (fun _ => 0))), (ot, .inl (cI, 3600, .inl (fun _ => 0))), (mo, .inl (cI, 3600, .inl (fun _ => 0))), (xx, .inl (cI, 60, .inl (fun _ => 0))), (yy, .inl (cI, 60, .inl (fun _ => 0)))] H := hP
  have hD : va_D A [(o, .inr (2, [.int 0, .int 0, .int 0, .int 0, .ref ta, .ref ot, .ref mo, .ref xx, .ref yy])), (ta, .inl (cI, 3600, .inl (fun _ => 0))), (ot, .inl (cI, 3600, .inl (fun _ => 0))), (mo, .inl (cI, 3600, .inl (fun _ => 0))), (xx, .inl (cI, 60, .inl (fun _ => 0))), (yy, .inl (cI, 60, .inl (fun _ => 0)))] := hD
  refine lv_aload_n hx hb dX2_init_47 rfl (lv_at hl 0 rfl) ?_
  refine lv_iload_n hx hb dX2_init_48 rfl (lv_at hl 1 rfl) ?_
  refine lv_bipush (v := nI 60) hx hb dX2_init_49 (by decide +kernel) ?_
  refine rs_cRS (As := [.int rows, .int (nI 60)]) (rest := [.ref o]) ⟨hx, hb, hml, hown, hts⟩ hl.1 (c_within l D cI rows 60 (by omega)) (va_cwS 2 hts gX2_init_X2_within rfl rfl rfl (by decide +kernel) ⟨Nat.le_of_ble_eq_true rfl, Nat.le_of_ble_eq_true rfl⟩) hK hP [] rfl rfl rfl (Nat.le_of_ble_eq_true rfl) dX2_init_51 (Nat.le_of_ble_eq_true rfl) (Nat.le_of_ble_eq_true rfl) (fun r hv => ?_)
  rw [← eR] at hv
  subst hv
  refine va_put (D := D) (ci := 2) (v := .int (nI R)) (ty := .int) (C := RX2) (T := TX2) (N := 9) hx hb hts hin2 tyX2 tyX2_ok nmX2 hown hK hP hD hS 0 rfl rfl 1 (by decide) f29 (fun _ h9 => h9) rfl (by decide +kernel) rfl rfl (Nat.le_of_ble_eq_true rfl) dX2_init_54 (fun H locs hP hD hS => ?_)
  have hP : va_P D vwCl [(o, .inr (2, [.int 0, .int (nI R), .int 0, .int 0, .ref ta, .ref ot, .ref mo, .ref xx, .ref yy])), (ta, .inl (cI, 3600, .inl (fun _ => 0))), (ot, .inl (cI, 3600, .inl (fun _ => 0))), (mo, .inl (cI, 3600, .inl (fun _ => 0))), (xx, .inl (cI, 60, .inl (fun _ => 0))), (yy, .inl (cI, 60, .inl (fun _ => 0)))] H := hP
  have hD : va_D A [(o, .inr (2, [.int 0, .int (nI R), .int 0, .int 0, .ref ta, .ref ot, .ref mo, .ref xx, .ref yy])), (ta, .inl (cI, 3600, .inl (fun _ => 0))), (ot, .inl (cI, 3600, .inl (fun _ => 0))), (mo, .inl (cI, 3600, .inl (fun _ => 0))), (xx, .inl (cI, 60, .inl (fun _ => 0))), (yy, .inl (cI, 60, .inl (fun _ => 0)))] := hD
  refine lv_aload_n hx hb dX2_init_57 rfl (lv_at hl 0 rfl) ?_
  refine lv_iload_n hx hb dX2_init_58 rfl (lv_at hl 2 rfl) ?_
  refine lv_bipush (v := nI 60) hx hb dX2_init_59 (by decide +kernel) ?_
  refine rs_cRS (As := [.int cols, .int (nI 60)]) (rest := [.ref o]) ⟨hx, hb, hml, hown, hts⟩ hl.1 (c_within l D cI cols 60 (by omega)) (va_cwS 2 hts gX2_init_X2_within rfl rfl rfl (by decide +kernel) ⟨Nat.le_of_ble_eq_true rfl, Nat.le_of_ble_eq_true rfl⟩) hK hP [] rfl rfl rfl (Nat.le_of_ble_eq_true rfl) dX2_init_61 (Nat.le_of_ble_eq_true rfl) (Nat.le_of_ble_eq_true rfl) (fun r hv => ?_)
  rw [← eC] at hv
  subst hv
  refine va_put (D := D) (ci := 2) (v := .int (nI C)) (ty := .int) (C := RX2) (T := TX2) (N := 9) hx hb hts hin2 tyX2 tyX2_ok nmX2 hown hK hP hD hS 0 rfl rfl 2 (by decide) f33 (fun _ h9 => h9) rfl (by decide +kernel) rfl rfl (Nat.le_of_ble_eq_true rfl) dX2_init_64 (fun H locs hP hD hS => ?_)
  have hP : va_P D vwCl [(o, .inr (2, [.int 0, .int (nI R), .int (nI C), .int 0, .ref ta, .ref ot, .ref mo, .ref xx, .ref yy])), (ta, .inl (cI, 3600, .inl (fun _ => 0))), (ot, .inl (cI, 3600, .inl (fun _ => 0))), (mo, .inl (cI, 3600, .inl (fun _ => 0))), (xx, .inl (cI, 60, .inl (fun _ => 0))), (yy, .inl (cI, 60, .inl (fun _ => 0)))] H := hP
  have hD : va_D A [(o, .inr (2, [.int 0, .int (nI R), .int (nI C), .int 0, .ref ta, .ref ot, .ref mo, .ref xx, .ref yy])), (ta, .inl (cI, 3600, .inl (fun _ => 0))), (ot, .inl (cI, 3600, .inl (fun _ => 0))), (mo, .inl (cI, 3600, .inl (fun _ => 0))), (xx, .inl (cI, 60, .inl (fun _ => 0))), (yy, .inl (cI, 60, .inl (fun _ => 0)))] := hD
  refine lv_aload_n hx hb dX2_init_67 rfl (lv_at hl 0 rfl) ?_
  refine lv_iload_n hx hb dX2_init_68 rfl (lv_at hl 3 rfl) ?_
  refine lv_sipush (v := nI 1000) hx hb dX2_init_69 (by decide +kernel) ?_
  refine rs_cRS (As := [.int cap, .int (nI 1000)]) (rest := [.ref o]) ⟨hx, hb, hml, hown, hts⟩ hl.1 (c_within l D cI cap 1000 (by omega)) (va_cwS 2 hts gX2_init_X2_within rfl rfl rfl (by decide +kernel) ⟨Nat.le_of_ble_eq_true rfl, Nat.le_of_ble_eq_true rfl⟩) hK hP [] rfl rfl rfl (Nat.le_of_ble_eq_true rfl) dX2_init_72 (Nat.le_of_ble_eq_true rfl) (Nat.le_of_ble_eq_true rfl) (fun r hv => ?_)
  rw [← eK] at hv
  subst hv
  refine va_putF (D := D) (ci := 2) (v := .int (nI K)) (ty := .int) (C := RX2) (T := TX2) (N := 9) hx hb hts hin2 tyX2 tyX2_ok nmX2 hown hK hP hD hS 0 rfl rfl 0 (by decide) f36 (fun _ h9 => h9) rfl hin rfl (by decide +kernel) rfl rfl (Nat.le_of_ble_eq_true rfl) dX2_init_75 (fun H locs hP hD hS => ?_)
  have hP : va_P D vwCl [(o, .inr (2, [.int (nI K), .int (nI R), .int (nI C), .int 0, .ref ta, .ref ot, .ref mo, .ref xx, .ref yy])), (ta, .inl (cI, 3600, .inl (fun _ => 0))), (ot, .inl (cI, 3600, .inl (fun _ => 0))), (mo, .inl (cI, 3600, .inl (fun _ => 0))), (xx, .inl (cI, 60, .inl (fun _ => 0))), (yy, .inl (cI, 60, .inl (fun _ => 0)))] H := hP
  have hD : va_D A [(o, .inr (2, [.int (nI K), .int (nI R), .int (nI C), .int 0, .ref ta, .ref ot, .ref mo, .ref xx, .ref yy])), (ta, .inl (cI, 3600, .inl (fun _ => 0))), (ot, .inl (cI, 3600, .inl (fun _ => 0))), (mo, .inl (cI, 3600, .inl (fun _ => 0))), (xx, .inl (cI, 60, .inl (fun _ => 0))), (yy, .inl (cI, 60, .inl (fun _ => 0)))] := hD
  refine W.widen (k := 5) (n := 11000) (by omega) (by omega) ?_
  exact ret _ _ _ _ ((mo, xx, yy), ((ta, ot), (fun _ => 0), (fun _ => 0), ((fun _ => 0), (fun _ => 0), (fun _ => 0)))) dX2_init_78 (hr0) (hP.sub [0, 1, 2, 3, 4, 5] rfl) (hD.sub [0, 1, 2, 3, 4, 5] (by decide) rfl) hS
