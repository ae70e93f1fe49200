set_option maxHeartbeats 4000000 in
set_option maxRecDepth 100000 in
theorem c_addSquaredRowTo (l : Launch) (D : va_G) (cI : ClassId) (h a b c0 k z S R i : Nat) (f g w Z : Nat → Int32) (M0 : Nat → Nat → Int32) (hs : ms_Sup k S R M0 f g w) (hi : i < R) (hR : R ≤ S) (hS : S + 1 < 2 ^ 31) (hk : k < 2 ^ 31) (hq : ∀ i j, ¬ M0 i j = 0 → j < R) : MetV l yX0_addSquaredRowTo wsX0_addSquaredRowTo rm_1 D [(cI, .int)] [.ref h, .ref z, .int (nI i)] [(h, .inr (0, [.ref a, .ref b, .ref c0])), (a, .inl (cI, S + 1, .inl f)), (b, .inl (cI, k, .inl g)), (c0, .inl (cI, k, .inl w)), (z, .inl (cI, S, .inl Z))] (fun u : Nat → Int32 => ∀ j, j < S → u j = Z j + ms_sm (fun k => M0 i k * M0 k j) S) (fun u => [(h, .inr (0, [.ref a, .ref b, .ref c0])), (a, .inl (cI, S + 1, .inl f)), (b, .inl (cI, k, .inl g)), (c0, .inl (cI, k, .inl w)), (z, .inl (cI, S, .inl u))]) 0 0 := by
  refine rs_V (cc := cX0_addSquaredRowTo) (maxL := 5) (by decide) rfl (Nat.le_of_ble_eq_true rfl) ?_
  intro p e s m args below meth c Q A ls hx hb hml hown hts hin hP hK hD hS hA hl ret
  have f7 := hts (.fieldLink RX0 7 "RowSparse$Support" "starts" "[I") (by decide +kernel)
  have f13 := hts (.fieldLink RX0 13 "RowSparse$Support" "columns" "[I") (by decide +kernel)
  have f16 := hts (.fieldLink RX0 16 "RowSparse$Support" "values" "[I") (by decide +kernel)
  have hin0 : ∀ w ∈ u_ws RX0 TX0 3, w ∈ wsX0_addSquaredRowTo := by decide +kernel
  have hl : lv_has ls 5 [(0, .ref h), (1, .ref z), (2, .int (nI i))] := hl
  have hP : va_P D vwCl [(h, .inr (0, [.ref a, .ref b, .ref c0])), (a, .inl (cI, S + 1, .inl f)), (b, .inl (cI, k, .inl g)), (c0, .inl (cI, k, .inl w)), (z, .inl (cI, S, .inl Z))] s.heap := hP
  have hD : va_D A [(h, .inr (0, [.ref a, .ref b, .ref c0])), (a, .inl (cI, S + 1, .inl f)), (b, .inl (cI, k, .inl g)), (c0, .inl (cI, k, .inl w)), (z, .inl (cI, S, .inl Z))] := hD
  obtain ⟨e0, e1, h01, h1k, e2⟩ := ms_Sq hs hi
  refine lv_aload_n hx hb dX0_addSquaredRowTo_0 rfl (lv_at hl 0 rfl) ?_
  refine va_get (D := D) (ci := 0) (v := .ref a) (C := RX0) (T := TX0) (N := 3) hx hb hts hin0 hown hK hP 0 rfl rfl 0 (by decide) f7 (fun _ h9 => h9) rfl dX0_addSquaredRowTo_1 ?_
  refine lv_iload_n hx hb dX0_addSquaredRowTo_4 rfl (lv_at hl 2 rfl) ?_
  refine lv_iconst (v := nI 1) hx hb dX0_addSquaredRowTo_5 (by decide +kernel) ?_
  refine rv_iadd hx hb dX0_addSquaredRowTo_6 ?_
  refine rv_iald hx hb hK hP 1 rfl rfl (by omega) (by omega) dX0_addSquaredRowTo_7 ?_
  refine rv_top (e1) ?_
  refine lv_istore_n (lv' := [(3, .int (nI (ms_sc M0 S (i + 1)))), (0, .ref h), (1, .ref z), (2, .int (nI i))]) hx hb dX0_addSquaredRowTo_8 rfl hl (by decide) rfl (fun ls hl => ?_)
  refine lv_aload_n hx hb dX0_addSquaredRowTo_9 rfl (lv_at hl 1 rfl) ?_
  refine va_get (D := D) (ci := 0) (v := .ref a) (C := RX0) (T := TX0) (N := 3) hx hb hts hin0 hown hK hP 0 rfl rfl 0 (by decide) f7 (fun _ h9 => h9) rfl dX0_addSquaredRowTo_10 ?_
  refine lv_iload_n hx hb dX0_addSquaredRowTo_13 rfl (lv_at hl 3 rfl) ?_
  refine rv_iald hx hb hK hP 1 rfl rfl (by omega) (by omega) dX0_addSquaredRowTo_14 ?_
  refine rv_top (e0) ?_
  refine lv_istore (lv' := [(4, .int (nI (ms_sc M0 S i))), (3, .int (nI (ms_sc M0 S (i + 1)))), (0, .ref h), (1, .ref z), (2, .int (nI i))]) hx hb dX0_addSquaredRowTo_15 hl (by decide) rfl (fun ls hl => ?_)
  have L17 : ∀ (k17 : Nat) (t : Nat) (Z1 : Nat → Int32) (H : Heap) (locs : List Loc) (ls : Array Slot), ms_sc M0 S i + t + k17 = ms_sc M0 S (i + 1) → (∀ j, j < S → Z1 j = Z j + ms_sm (fun t => w (ms_sc M0 S i + t) * M0 (ms_J g (ms_sc M0 S i) t) j) t) → va_P D vwCl [(h, .inr (0, [.ref a, .ref b, .ref c0])), (a, .inl (cI, S + 1, .inl f)), (b, .inl (cI, k, .inl g)), (c0, .inl (cI, k, .inl w)), (z, .inl (cI, S, .inl Z1))] H → va_D A [(h, .inr (0, [.ref a, .ref b, .ref c0])), (a, .inl (cI, S + 1, .inl f)), (b, .inl (cI, k, .inl g)), (c0, .inl (cI, k, .inl w)), (z, .inl (cI, S, .inl Z1))] → va_S A s.heap H locs → lv_has ls 5 [(4, .int (nI (ms_sc M0 S i + t))), (3, .int (nI (ms_sc M0 S (i + 1)))), (0, .ref h), (1, .ref z), (2, .int (nI i))] → W p l e rm_1 s m args below meth c H locs 0 0 Q (F0 m 17 ls []) := by
    intro k17
    induction k17 with
    | zero =>
      intro t Z1 H locs ls hk17 hZ hP hD hS hl
      refine lv_iload hx hb dX0_addSquaredRowTo_17 (lv_at hl 0 rfl) ?_
      refine lv_iload_n hx hb dX0_addSquaredRowTo_19 rfl (lv_at hl 1 rfl) ?_
      refine rv_ge_t (tgt := 48) hx hb dX0_addSquaredRowTo_20 (by decide) (by omega) (by omega) ?_
      exact ret _ _ _ _ Z1 dX0_addSquaredRowTo_48 (ms_sqrow hs (by omega) hi (by rw [show ms_rc (M0 i) S = t by omega]; exact hZ)) (hP.sub [0, 1, 2, 3, 4] rfl) (hD.sub [0, 1, 2, 3, 4] (by decide) rfl) hS
    | succ k17 ih17 =>
      intro t Z1 H locs ls hk17 hZ hP hD hS hl
      obtain ⟨hj1, hj2, hj3, hj4⟩ := ms_Jt hs (by omega) hi (show t < ms_rc (M0 i) S by omega)
      have hj5 := hq i _ hj2
      obtain ⟨p0, p1, p01, p1k, p2⟩ := ms_Sq hs hj5
      refine lv_iload hx hb dX0_addSquaredRowTo_17 (lv_at hl 0 rfl) ?_
      refine lv_iload_n hx hb dX0_addSquaredRowTo_19 rfl (lv_at hl 1 rfl) ?_
      refine rv_ge_f (tgt := 48) hx hb dX0_addSquaredRowTo_20 (by decide) (by omega) (by omega) ?_
      refine lv_aload_n hx hb dX0_addSquaredRowTo_23 rfl (lv_at hl 2 rfl) ?_
      refine lv_aload_n hx hb dX0_addSquaredRowTo_24 rfl (lv_at hl 3 rfl) ?_
      refine lv_aload_n hx hb dX0_addSquaredRowTo_25 rfl (lv_at hl 2 rfl) ?_
      refine va_get (D := D) (ci := 0) (v := .ref b) (C := RX0) (T := TX0) (N := 3) hx hb hts hin0 hown hK hP 0 rfl rfl 1 (by decide) f13 (fun _ h9 => h9) rfl dX0_addSquaredRowTo_26 ?_
      refine lv_iload hx hb dX0_addSquaredRowTo_29 (lv_at hl 0 rfl) ?_
      refine rv_iald hx hb hK hP 2 rfl rfl (by omega) (by omega) dX0_addSquaredRowTo_31 ?_
      refine rv_top (hj3) ?_
      refine lv_aload_n hx hb dX0_addSquaredRowTo_32 rfl (lv_at hl 2 rfl) ?_
      refine va_get (D := D) (ci := 0) (v := .ref c0) (C := RX0) (T := TX0) (N := 3) hx hb hts hin0 hown hK hP 0 rfl rfl 2 (by decide) f16 (fun _ h9 => h9) rfl dX0_addSquaredRowTo_33 ?_
      refine lv_iload hx hb dX0_addSquaredRowTo_36 (lv_at hl 0 rfl) ?_
      refine rv_iald hx hb hK hP 3 rfl rfl (by omega) (by omega) dX0_addSquaredRowTo_38 ?_
      refine rs_cV (As := [.ref z, .int (nI (ms_J g (ms_sc M0 S i) t)), .int (w (ms_sc M0 S i + t))]) (rest := []) (WR := []) ⟨hx, hb, hml, hown, hts⟩ hl.1 (c_addRowTo l D cI h a b c0 (S + 1) k f g w z S Z1 (w (ms_sc M0 S i + t)) (ms_J g (ms_sc M0 S (ms_J g (ms_sc M0 S i) t))) (ms_J g (ms_sc M0 S i) t) (ms_sc M0 S (ms_J g (ms_sc M0 S i) t)) (ms_sc M0 S (ms_J g (ms_sc M0 S i) t + 1)) (by omega) (by omega) hk p0 p1 p01 p1k (by omega) (fun t2 ht2 => ⟨(ms_Jt hs (by omega) hj5 (show t2 < ms_rc (M0 (ms_J g (ms_sc M0 S i) t)) S by omega)).2.2.1, (ms_Jt hs (by omega) hj5 (show t2 < ms_rc (M0 (ms_J g (ms_sc M0 S i) t)) S by omega)).1⟩)) (cwV 3 hts gX0_addSquaredRowTo_X0_addRowTo rfl rfl rfl (by decide +kernel) ⟨Nat.le_of_ble_eq_true rfl, Nat.le_of_ble_eq_true rfl⟩) hK hP hD hS hA [0, 1, 2, 3, 4] [] rfl rfl (by decide) (by decide) (by decide) rfl rfl rfl rfl (Nat.le_of_ble_eq_true rfl) dX0_addSquaredRowTo_39 (Nat.le_of_ble_eq_true rfl) (Nat.le_of_ble_eq_true rfl) (fun u H locs hu hP hD hS => ?_)
      have hP : va_P D vwCl [(h, .inr (0, [.ref a, .ref b, .ref c0])), (a, .inl (cI, S + 1, .inl f)), (b, .inl (cI, k, .inl g)), (c0, .inl (cI, k, .inl w)), (z, .inl (cI, S, .inl u))] H := hP
      have hD : va_D A [(h, .inr (0, [.ref a, .ref b, .ref c0])), (a, .inl (cI, S + 1, .inl f)), (b, .inl (cI, k, .inl g)), (c0, .inl (cI, k, .inl w)), (z, .inl (cI, S, .inl u))] := hD
      have hu2 : ∀ j, j < S → u j = Z1 j + w (ms_sc M0 S i + t) * M0 (ms_J g (ms_sc M0 S i) t) j := ms_addrow hs (by omega) hj5 hu
      refine lv_iinc (v := nI ((ms_sc M0 S i + t) + 1)) (lv' := [(4, .int (nI ((ms_sc M0 S i + t) + 1))), (3, .int (nI (ms_sc M0 S (i + 1)))), (0, .ref h), (1, .ref z), (2, .int (nI i))]) hx hb dX0_addSquaredRowTo_42 hl (k := 0) rfl (rv_inc _) (by decide) rfl (fun ls hl => ?_)
      refine lv_goto (tgt := 17) hx hb dX0_addSquaredRowTo_45 (by decide) ?_
      exact ih17 (t + 1) u _ _ _ (by omega) (ms_sqstep (F := fun _ => 0) (G := fun t j => w (ms_sc M0 S i + t) * M0 (ms_J g (ms_sc M0 S i) t) j) hu2 hZ) (hP.sub [0, 1, 2, 3, 4] rfl) (hD.sub [0, 1, 2, 3, 4] (by decide) rfl) hS (lv_sub hl [0, 1, 2, 3, 4] rfl)
  exact L17 _ 0 Z _ _ _ (Nat.add_sub_cancel' h01) (fun j _ => (Int32.add_zero _).symm) (hP.sub [0, 1, 2, 3, 4] rfl) (hD.sub [0, 1, 2, 3, 4] (by decide) rfl) hS (lv_sub hl [0, 1, 2, 3, 4] rfl)

set_option maxHeartbeats 4000000 in
set_option maxRecDepth 100000 in
theorem c_fill (l : Launch) (D : va_G) (cI : ClassId) (a N : Nat) (f : Nat → Int32) (v : Int32) (hN : N < 2 ^ 31) : MetV l yJ7_fill_53178 wsJ7_fill_53178 rm_0 D [(cI, .int)] [.ref a, .int v] [(a, .inl (cI, N, .inl f))] (fun u : Nat → Int32 => ∀ j, j < N → u j = v) (fun u => [(a, .inl (cI, N, .inl u))]) 0 0 := by
  refine rs_V (cc := cJ7_fill_53178) (maxL := 4) (by decide) rfl (Nat.le_of_ble_eq_true rfl) ?_
  intro p e s m args below meth c Q A ls hx hb hml hown hts hin hP hK hD hS hA hl ret
  have hl : lv_has ls 4 [(0, .ref a), (1, .int v)] := hl
  have hP : va_P D vwCl [(a, .inl (cI, N, .inl f))] s.heap := hP
  have hD : va_D A [(a, .inl (cI, N, .inl f))] := hD
  refine lv_iconst (v := nI 0) hx hb dJ7_fill_53178_0 (by decide +kernel) ?_
  refine lv_istore_n (lv' := [(2, .int (nI 0)), (0, .ref a), (1, .int v)]) hx hb dJ7_fill_53178_1 rfl hl (by decide) rfl (fun ls hl => ?_)
  refine lv_aload_n hx hb dJ7_fill_53178_2 rfl (lv_at hl 1 rfl) ?_
  refine va_alen (v := nI N) hx hb hK hP 0 0 rfl (ty := .int) rfl rfl dJ7_fill_53178_3 ?_
  refine lv_istore_n (lv' := [(3, .int (nI N)), (2, .int (nI 0)), (0, .ref a), (1, .int v)]) hx hb dJ7_fill_53178_4 rfl hl (by decide) rfl (fun ls hl => ?_)
  have L5 : ∀ (k5 : Nat) (j : Nat) (f1 : Nat → Int32) (H : Heap) (locs : List Loc) (ls : Array Slot), j + k5 = N → (∀ t, t < j → f1 t = v) → va_P D vwCl [(a, .inl (cI, N, .inl f1))] H → va_D A [(a, .inl (cI, N, .inl f1))] → va_S A s.heap H locs → lv_has ls 4 [(2, .int (nI j)), (3, .int (nI N)), (0, .ref a), (1, .int v)] → W p l e rm_0 s m args below meth c H locs 0 0 Q (F0 m 5 ls []) := by
    intro k5
    induction k5 with
    | zero =>
      intro j f1 H locs ls hk5 hf hP hD hS hl
      refine lv_iload_n hx hb dJ7_fill_53178_5 rfl (lv_at hl 0 rfl) ?_
      refine lv_iload_n hx hb dJ7_fill_53178_6 rfl (lv_at hl 1 rfl) ?_
      refine rv_ge_t (tgt := 20) hx hb dJ7_fill_53178_7 (by decide) (by omega) (by omega) ?_
      exact ret _ _ _ _ f1 dJ7_fill_53178_20 (fun t ht => hf t (by omega)) (hP.sub [0] rfl) (hD.sub [0] (by decide) rfl) hS
    | succ k5 ih5 =>
      intro j f1 H locs ls hk5 hf hP hD hS hl
      refine lv_iload_n hx hb dJ7_fill_53178_5 rfl (lv_at hl 0 rfl) ?_
      refine lv_iload_n hx hb dJ7_fill_53178_6 rfl (lv_at hl 1 rfl) ?_
      refine rv_ge_f (tgt := 20) hx hb dJ7_fill_53178_7 (by decide) (by omega) (by omega) ?_
      refine lv_aload_n hx hb dJ7_fill_53178_10 rfl (lv_at hl 2 rfl) ?_
      refine lv_iload_n hx hb dJ7_fill_53178_11 rfl (lv_at hl 0 rfl) ?_
      refine lv_iload_n hx hb dJ7_fill_53178_12 rfl (lv_at hl 3 rfl) ?_
      refine rv_iast hx hb hK hP hD hS 0 rfl rfl (by omega) (by omega) dJ7_fill_53178_13 (fun H locs hP hD hS => ?_)
      have hP : va_P D vwCl [(a, .inl (cI, N, .inl (upd f1 j v)))] H := hP
      have hD : va_D A [(a, .inl (cI, N, .inl (upd f1 j v)))] := hD
      refine lv_iinc (v := nI (j + 1)) (lv' := [(2, .int (nI (j + 1))), (3, .int (nI N)), (0, .ref a), (1, .int v)]) hx hb dJ7_fill_53178_14 hl (k := 0) rfl (rv_inc _) (by decide) rfl (fun ls hl => ?_)
      refine lv_goto (tgt := 5) hx hb dJ7_fill_53178_17 (by decide) ?_
      exact ih5 (j + 1) (upd f1 j v) _ _ _ (by omega) (ms_fillstep hf) (hP.sub [0] rfl) (hD.sub [0] (by decide) rfl) hS (lv_sub hl [0, 1, 2, 3] rfl)
  exact L5 _ 0 f _ _ _ (Nat.zero_add _) (fun t ht => absurd ht (Nat.not_lt_zero t)) (hP.sub [0] rfl) (hD.sub [0] (by decide) rfl) hS (lv_sub hl [1, 0, 2, 3] rfl)

set_option maxHeartbeats 4000000 in
set_option maxRecDepth 100000 in
theorem c_hasPlace (l : Launch) (D : va_G) (cI : ClassId) (o R C : Nat) (x0 x3 x4 x5 x6 x7 x8 x9 x10 x11 : Value) (i j : Int32) (hR : R < 2 ^ 31) (hC : C < 2 ^ 31) : MetR l yX1_hasPlace wsX1_hasPlace rm_1 D [(cI, .int)] [.ref o, .int i, .int j] [(o, .inr (1, [x0, .int (nI R), .int (nI C), x3, x4, x5, x6, x7, x8, x9, x10, x11]))] (fun r => r = ms_bI (ms_in i R && ms_in j C)) := by
  refine rs_R (cc := cX1_hasPlace) (maxL := 3) (rty := .boolean) (by decide) rfl (Nat.le_of_ble_eq_true rfl) ?_
  intro p e s m args below meth c Q ls hx hb hml hown hts hP hK hl ret
  have f13 := hts (.fieldLink RX1 13 "RowSparse" "rows" "I") (by decide +kernel)
  have f17 := hts (.fieldLink RX1 17 "RowSparse" "cols" "I") (by decide +kernel)
  have hin1 : ∀ w ∈ u_ws RX1 TX1 12, w ∈ wsX1_hasPlace := by decide +kernel
  have hl : lv_has ls 3 [(0, .ref o), (1, .int i), (2, .int j)] := hl
  have hP : va_P D vwCl [(o, .inr (1, [x0, .int (nI R), .int (nI C), x3, x4, x5, x6, x7, x8, x9, x10, x11]))] s.heap := hP
  refine lv_iload_n hx hb dX1_hasPlace_0 rfl (lv_at hl 1 rfl) ?_
  refine lv_aload_n hx hb dX1_hasPlace_1 rfl (lv_at hl 0 rfl) ?_
  refine va_get (D := D) (ci := 1) (v := .int (nI R)) (C := RX1) (T := TX1) (N := 12) hx hb hts hin1 hown hK hP 0 rfl rfl 1 (by decide) f13 (fun _ h9 => h9) rfl dX1_hasPlace_2 ?_
  refine rs_cRS (As := [.int i, .int (nI R)]) (rest := []) ⟨hx, hb, hml, hown, hts⟩ hl.1 (c_isWithin l D cI i R hR) (va_cwS 2 hts gX1_hasPlace_X1_isWithin rfl rfl rfl (by decide +kernel) ⟨Nat.le_of_ble_eq_true rfl, Nat.le_of_ble_eq_true rfl⟩) hK hP [] rfl rfl rfl (Nat.le_of_ble_eq_true rfl) dX1_hasPlace_5 (Nat.le_of_ble_eq_true rfl) (Nat.le_of_ble_eq_true rfl) (fun r hr => ?_)
  subst hr
  refine lv_if_eq (tgt := 26) hx hb dX1_hasPlace_8 (by decide) (fun h1 => ?_) (fun h1 => ?_)
  · have h1 := ms_bI_0.mp h1
    refine lv_iconst (v := nI 0) hx hb dX1_hasPlace_26 (by decide +kernel) ?_
    exact ret _ _ _ dX1_hasPlace_27 (rfl) (ms_bI_f (by rw [h1]; rfl))
  · have h1 := ms_bI_n.mp h1
    refine lv_iload_n hx hb dX1_hasPlace_11 rfl (lv_at hl 2 rfl) ?_
    refine lv_aload_n hx hb dX1_hasPlace_12 rfl (lv_at hl 0 rfl) ?_
    refine va_get (D := D) (ci := 1) (v := .int (nI C)) (C := RX1) (T := TX1) (N := 12) hx hb hts hin1 hown hK hP 0 rfl rfl 2 (by decide) f17 (fun _ h9 => h9) rfl dX1_hasPlace_13 ?_
    refine rs_cRS (As := [.int j, .int (nI C)]) (rest := []) ⟨hx, hb, hml, hown, hts⟩ hl.1 (c_isWithin l D cI j C hC) (va_cwS 2 hts gX1_hasPlace_X1_isWithin rfl rfl rfl (by decide +kernel) ⟨Nat.le_of_ble_eq_true rfl, Nat.le_of_ble_eq_true rfl⟩) hK hP [] rfl rfl rfl (Nat.le_of_ble_eq_true rfl) dX1_hasPlace_16 (Nat.le_of_ble_eq_true rfl) (Nat.le_of_ble_eq_true rfl) (fun r hr => ?_)
    subst hr
    refine lv_if_eq (tgt := 26) hx hb dX1_hasPlace_19 (by decide) (fun h2 => ?_) (fun h2 => ?_)
    · have h2 := ms_bI_0.mp h2
      refine lv_iconst (v := nI 0) hx hb dX1_hasPlace_26 (by decide +kernel) ?_
      exact ret _ _ _ dX1_hasPlace_27 (rfl) (ms_bI_f (by rw [h1, h2]; rfl))
    · have h2 := ms_bI_n.mp h2
      refine lv_iconst (v := nI 1) hx hb dX1_hasPlace_22 (by decide +kernel) ?_
      refine lv_goto (tgt := 27) hx hb dX1_hasPlace_23 (by decide) ?_
      exact ret _ _ _ dX1_hasPlace_27 (rfl) (ms_bI_t (by rw [h1, h2]; rfl))

set_option maxHeartbeats 4000000 in
set_option maxRecDepth 100000 in
theorem c_isPlace (l : Launch) (D : va_G) (cI : ClassId) (o R C : Nat) (x0 x3 x4 x5 x6 x7 x8 : Value) (i j : Int32) (hR1 : 1 ≤ R) (hC1 : 1 ≤ C) (hR : R < 2 ^ 31) (hC : C < 2 ^ 31) : MetR l yX2_isPlace wsX2_isPlace rm_1 D [(cI, .int)] [.ref o, .int i, .int j] [(o, .inr (2, [x0, .int (nI R), .int (nI C), x3, x4, x5, x6, x7, x8]))] (fun r => r = ms_bI (ms_in i R && ms_in j C)) := by
  refine rs_R (cc := cX2_isPlace) (maxL := 3) (rty := .boolean) (by decide) rfl (Nat.le_of_ble_eq_true rfl) ?_
  intro p e s m args below meth c Q ls hx hb hml hown hts hP hK hl ret
  have f29 := hts (.fieldLink RX2 29 "RowSparseModel" "rows" "I") (by decide +kernel)
  have f33 := hts (.fieldLink RX2 33 "RowSparseModel" "cols" "I") (by decide +kernel)
  have hin2 : ∀ w ∈ u_ws RX2 TX2 9, w ∈ wsX2_isPlace := by decide +kernel
  have hl : lv_has ls 3 [(0, .ref o), (1, .int i), (2, .int j)] := hl
  have hP : va_P D vwCl [(o, .inr (2, [x0, .int (nI R), .int (nI C), x3, x4, x5, x6, x7, x8]))] s.heap := hP
  have eR : R - 1 + 1 = R := by omega
  have eC : C - 1 + 1 = C := by omega
  refine lv_iload_n hx hb dX2_isPlace_0 rfl (lv_at hl 1 rfl) ?_
  refine lv_iconst (v := nI 0) hx hb dX2_isPlace_1 (by decide +kernel) ?_
  refine lv_aload_n hx hb dX2_isPlace_2 rfl (lv_at hl 0 rfl) ?_
  refine va_get (D := D) (ci := 2) (v := .int (nI R)) (C := RX2) (T := TX2) (N := 9) hx hb hts hin2 hown hK hP 0 rfl rfl 1 (by decide) f29 (fun _ h9 => h9) rfl dX2_isPlace_3 ?_
  refine lv_iconst (v := nI 1) hx hb dX2_isPlace_6 (by decide +kernel) ?_
  refine rv_isub hx hb (by omega) dX2_isPlace_7 ?_
  refine rs_cRS (As := [.int i, .int (nI 0), .int (nI (R - 1))]) (rest := []) ⟨hx, hb, hml, hown, hts⟩ hl.1 (c_in l D cI i (R - 1) (by omega)) (va_cwS 3 hts gX2_isPlace_X2_in rfl rfl rfl (by decide +kernel) ⟨Nat.le_of_ble_eq_true rfl, Nat.le_of_ble_eq_true rfl⟩) hK hP [] rfl rfl rfl (Nat.le_of_ble_eq_true rfl) dX2_isPlace_8 (Nat.le_of_ble_eq_true rfl) (Nat.le_of_ble_eq_true rfl) (fun r hr => ?_)
  subst hr
  refine lv_if_eq (tgt := 32) hx hb dX2_isPlace_11 (by decide) (fun h1 => ?_) (fun h1 => ?_)
  · have h1 := ms_bI_0.mp h1
    rw [eR] at h1
    refine lv_iconst (v := nI 0) hx hb dX2_isPlace_32 (by decide +kernel) ?_
    exact ret _ _ _ dX2_isPlace_33 (rfl) (ms_bI_f (by rw [h1]; rfl))
  · have h1 := ms_bI_n.mp h1
    rw [eR] at h1
    refine lv_iload_n hx hb dX2_isPlace_14 rfl (lv_at hl 2 rfl) ?_
    refine lv_iconst (v := nI 0) hx hb dX2_isPlace_15 (by decide +kernel) ?_
    refine lv_aload_n hx hb dX2_isPlace_16 rfl (lv_at hl 0 rfl) ?_
    refine va_get (D := D) (ci := 2) (v := .int (nI C)) (C := RX2) (T := TX2) (N := 9) hx hb hts hin2 hown hK hP 0 rfl rfl 2 (by decide) f33 (fun _ h9 => h9) rfl dX2_isPlace_17 ?_
    refine lv_iconst (v := nI 1) hx hb dX2_isPlace_20 (by decide +kernel) ?_
    refine rv_isub hx hb (by omega) dX2_isPlace_21 ?_
    refine rs_cRS (As := [.int j, .int (nI 0), .int (nI (C - 1))]) (rest := []) ⟨hx, hb, hml, hown, hts⟩ hl.1 (c_in l D cI j (C - 1) (by omega)) (va_cwS 3 hts gX2_isPlace_X2_in rfl rfl rfl (by decide +kernel) ⟨Nat.le_of_ble_eq_true rfl, Nat.le_of_ble_eq_true rfl⟩) hK hP [] rfl rfl rfl (Nat.le_of_ble_eq_true rfl) dX2_isPlace_22 (Nat.le_of_ble_eq_true rfl) (Nat.le_of_ble_eq_true rfl) (fun r hr => ?_)
    subst hr
    refine lv_if_eq (tgt := 32) hx hb dX2_isPlace_25 (by decide) (fun h2 => ?_) (fun h2 => ?_)
    · have h2 := ms_bI_0.mp h2
      rw [eC] at h2
      refine lv_iconst (v := nI 0) hx hb dX2_isPlace_32 (by decide +kernel) ?_
      exact ret _ _ _ dX2_isPlace_33 (rfl) (ms_bI_f (by rw [h1, h2]; rfl))
    · have h2 := ms_bI_n.mp h2
      rw [eC] at h2
      refine lv_iconst (v := nI 1) hx hb dX2_isPlace_28 (by decide +kernel) ?_
      refine lv_goto (tgt := 33) hx hb dX2_isPlace_29 (by decide) ?_
      exact ret _ _ _ dX2_isPlace_33 (rfl) (ms_bI_t (by rw [h1, h2]; rfl))

set_option maxHeartbeats 4000000 in
set_option maxRecDepth 100000 in
theorem c_addPendingTo (l : Launch) (D : va_G) (cI : ClassId) (o K R C su sp ar ac av vx py li np z S i : Nat) (pR pC pV Z : Nat → Int32) (J : Nat → Nat) (hK0 : K < 2 ^ 31) (hn : np ≤ K) (hS3 : S < 2 ^ 31) (hJ : ∀ p, p < np → pC p = nI (J p) ∧ J p < S) : MetV l yX1_addPendingTo wsX1_addPendingTo rm_0 D [(cI, .int)] [.ref o, .ref z, .int (nI i)] [(o, .inr (1, [.int (nI K), .int (nI R), .int (nI C), .ref su, .ref sp, .ref ar, .ref ac, .ref av, .int (nI np), .ref vx, .ref py, .ref li])), (ar, .inl (cI, K, .inl pR)), (ac, .inl (cI, K, .inl pC)), (av, .inl (cI, K, .inl pV)), (z, .inl (cI, S, .inl Z))] (fun u : Nat → Int32 => ∀ j, u j = Z j + ms_sm (fun p => if J p = j then (if pR p = nI i then pV p else 0) else 0) np) (fun u => [(o, .inr (1, [.int (nI K), .int (nI R), .int (nI C), .ref su, .ref sp, .ref ar, .ref ac, .ref av, .int (nI np), .ref vx, .ref py, .ref li])), (ar, .inl (cI, K, .inl pR)), (ac, .inl (cI, K, .inl pC)), (av, .inl (cI, K, .inl pV)), (z, .inl (cI, S, .inl u))]) 0 0 := by
  refine rs_V (cc := cX1_addPendingTo) (maxL := 4) (by decide) rfl (Nat.le_of_ble_eq_true rfl) ?_
  intro p e s m args below meth c Q A ls hx hb hml hown hts hin hP hK hD hS hA hl ret
  have f40 := hts (.fieldLink RX1 40 "RowSparse" "pendingRows" "[I") (by decide +kernel)
  have f44 := hts (.fieldLink RX1 44 "RowSparse" "pendingCols" "[I") (by decide +kernel)
  have f47 := hts (.fieldLink RX1 47 "RowSparse" "pendingValues" "[I") (by decide +kernel)
  have f50 := hts (.fieldLink RX1 50 "RowSparse" "pending" "I") (by decide +kernel)
  have hin1 : ∀ w ∈ u_ws RX1 TX1 12, w ∈ wsX1_addPendingTo := by decide +kernel
  have hl : lv_has ls 4 [(0, .ref o), (1, .ref z), (2, .int (nI i))] := hl
  have hP : va_P D vwCl [(o, .inr (1, [.int (nI K), .int (nI R), .int (nI C), .ref su, .ref sp, .ref ar, .ref ac, .ref av, .int (nI np), .ref vx, .ref py, .ref li])), (ar, .inl (cI, K, .inl pR)), (ac, .inl (cI, K, .inl pC)), (av, .inl (cI, K, .inl pV)), (z, .inl (cI, S, .inl Z))] s.heap := hP
  have hD : va_D A [(o, .inr (1, [.int (nI K), .int (nI R), .int (nI C), .ref su, .ref sp, .ref ar, .ref ac, .ref av, .int (nI np), .ref vx, .ref py, .ref li])), (ar, .inl (cI, K, .inl pR)), (ac, .inl (cI, K, .inl pC)), (av, .inl (cI, K, .inl pV)), (z, .inl (cI, S, .inl Z))] := hD
  refine lv_iconst (v := nI 0) hx hb dX1_addPendingTo_0 (by decide +kernel) ?_
  refine lv_istore_n (lv' := [(3, .int (nI 0)), (0, .ref o), (1, .ref z), (2, .int (nI i))]) hx hb dX1_addPendingTo_1 rfl hl (by decide) rfl (fun ls hl => ?_)
  have L2 : ∀ (k2 : Nat) (t : Nat) (Z1 : Nat → Int32) (H : Heap) (locs : List Loc) (ls : Array Slot), t + k2 = np → (∀ j, Z1 j = Z j + ms_sm (fun p => if J p = j then (if pR p = nI i then pV p else 0) else 0) t) → va_P D vwCl [(o, .inr (1, [.int (nI K), .int (nI R), .int (nI C), .ref su, .ref sp, .ref ar, .ref ac, .ref av, .int (nI np), .ref vx, .ref py, .ref li])), (ar, .inl (cI, K, .inl pR)), (ac, .inl (cI, K, .inl pC)), (av, .inl (cI, K, .inl pV)), (z, .inl (cI, S, .inl Z1))] H → va_D A [(o, .inr (1, [.int (nI K), .int (nI R), .int (nI C), .ref su, .ref sp, .ref ar, .ref ac, .ref av, .int (nI np), .ref vx, .ref py, .ref li])), (ar, .inl (cI, K, .inl pR)), (ac, .inl (cI, K, .inl pC)), (av, .inl (cI, K, .inl pV)), (z, .inl (cI, S, .inl Z1))] → va_S A s.heap H locs → lv_has ls 4 [(3, .int (nI t)), (0, .ref o), (1, .ref z), (2, .int (nI i))] → W p l e rm_0 s m args below meth c H locs 0 0 Q (F0 m 2 ls []) := by
    intro k2
    induction k2 with
    | zero =>
      intro t Z1 H locs ls hk2 hZ hP hD hS hl
      refine lv_iload_n hx hb dX1_addPendingTo_2 rfl (lv_at hl 0 rfl) ?_
      refine lv_aload_n hx hb dX1_addPendingTo_3 rfl (lv_at hl 1 rfl) ?_
      refine va_get (D := D) (ci := 1) (v := .int (nI np)) (C := RX1) (T := TX1) (N := 12) hx hb hts hin1 hown hK hP 0 rfl rfl 8 (by decide) f50 (fun _ h9 => h9) rfl dX1_addPendingTo_4 ?_
      refine rv_ge_t (tgt := 43) hx hb dX1_addPendingTo_7 (by decide) (by omega) (by omega) ?_
      exact ret _ _ _ _ Z1 dX1_addPendingTo_43 (by rw [show np = t by omega]; exact hZ) (hP.sub [0, 1, 2, 3, 4] rfl) (hD.sub [0, 1, 2, 3, 4] (by decide) rfl) hS
    | succ k2 ih2 =>
      intro t Z1 H locs ls hk2 hZ hP hD hS hl
      refine lv_iload_n hx hb dX1_addPendingTo_2 rfl (lv_at hl 0 rfl) ?_
      refine lv_aload_n hx hb dX1_addPendingTo_3 rfl (lv_at hl 1 rfl) ?_
      refine va_get (D := D) (ci := 1) (v := .int (nI np)) (C := RX1) (T := TX1) (N := 12) hx hb hts hin1 hown hK hP 0 rfl rfl 8 (by decide) f50 (fun _ h9 => h9) rfl dX1_addPendingTo_4 ?_
      refine rv_ge_f (tgt := 43) hx hb dX1_addPendingTo_7 (by decide) (by omega) (by omega) ?_
      refine lv_aload_n hx hb dX1_addPendingTo_10 rfl (lv_at hl 1 rfl) ?_
      refine va_get (D := D) (ci := 1) (v := .ref ar) (C := RX1) (T := TX1) (N := 12) hx hb hts hin1 hown hK hP 0 rfl rfl 5 (by decide) f40 (fun _ h9 => h9) rfl dX1_addPendingTo_11 ?_
      refine lv_iload_n hx hb dX1_addPendingTo_14 rfl (lv_at hl 0 rfl) ?_
      refine rv_iald hx hb hK hP 1 rfl rfl (by omega) (by omega) dX1_addPendingTo_15 ?_
      refine lv_iload_n hx hb dX1_addPendingTo_16 rfl (lv_at hl 3 rfl) ?_
      refine lv_icmp_ne (tgt := 37) hx hb dX1_addPendingTo_17 (by decide) (fun hne => ?_) (fun hne => ?_)
      · refine lv_iinc (v := nI (t + 1)) (lv' := [(3, .int (nI (t + 1))), (0, .ref o), (1, .ref z), (2, .int (nI i))]) hx hb dX1_addPendingTo_37 hl (k := 0) rfl (rv_inc _) (by decide) rfl (fun ls hl => ?_)
        refine lv_goto (tgt := 2) hx hb dX1_addPendingTo_40 (by decide) ?_
        exact ih2 (t + 1) Z1 _ _ _ (by omega) (ms_accskip (G := fun p => if pR p = nI i then pV p else 0) (if_neg hne) hZ) (hP.sub [0, 1, 2, 3, 4] rfl) (hD.sub [0, 1, 2, 3, 4] (by decide) rfl) hS (lv_sub hl [0, 1, 2, 3] rfl)
      · refine lv_aload_n hx hb dX1_addPendingTo_20 rfl (lv_at hl 2 rfl) ?_
        refine lv_aload_n hx hb dX1_addPendingTo_21 rfl (lv_at hl 1 rfl) ?_
        refine va_get (D := D) (ci := 1) (v := .ref ac) (C := RX1) (T := TX1) (N := 12) hx hb hts hin1 hown hK hP 0 rfl rfl 6 (by decide) f44 (fun _ h9 => h9) rfl dX1_addPendingTo_22 ?_
        refine lv_iload_n hx hb dX1_addPendingTo_25 rfl (lv_at hl 0 rfl) ?_
        refine rv_iald hx hb hK hP 2 rfl rfl (by omega) (by omega) dX1_addPendingTo_26 ?_
        refine rv_top ((hJ t (by omega)).1) ?_
        refine lv_dup2_11 hx hb dX1_addPendingTo_27 rfl rfl ?_
        refine rv_iald hx hb hK hP 4 rfl rfl ((hJ t (by omega)).2) (hS3) dX1_addPendingTo_28 ?_
        refine lv_aload_n hx hb dX1_addPendingTo_29 rfl (lv_at hl 1 rfl) ?_
        refine va_get (D := D) (ci := 1) (v := .ref av) (C := RX1) (T := TX1) (N := 12) hx hb hts hin1 hown hK hP 0 rfl rfl 7 (by decide) f47 (fun _ h9 => h9) rfl dX1_addPendingTo_30 ?_
        refine lv_iload_n hx hb dX1_addPendingTo_33 rfl (lv_at hl 0 rfl) ?_
        refine rv_iald hx hb hK hP 3 rfl rfl (by omega) (by omega) dX1_addPendingTo_34 ?_
        refine lv_iadd hx hb dX1_addPendingTo_35 ?_
        refine rv_iast hx hb hK hP hD hS 4 rfl rfl ((hJ t (by omega)).2) (hS3) dX1_addPendingTo_36 (fun H locs hP hD hS => ?_)
        have hP : va_P D vwCl [(o, .inr (1, [.int (nI K), .int (nI R), .int (nI C), .ref su, .ref sp, .ref ar, .ref ac, .ref av, .int (nI np), .ref vx, .ref py, .ref li])), (ar, .inl (cI, K, .inl pR)), (ac, .inl (cI, K, .inl pC)), (av, .inl (cI, K, .inl pV)), (z, .inl (cI, S, .inl (upd Z1 (J t) ((Z1 (J t)) + (pV t)))))] H := hP
        have hD : va_D A [(o, .inr (1, [.int (nI K), .int (nI R), .int (nI C), .ref su, .ref sp, .ref ar, .ref ac, .ref av, .int (nI np), .ref vx, .ref py, .ref li])), (ar, .inl (cI, K, .inl pR)), (ac, .inl (cI, K, .inl pC)), (av, .inl (cI, K, .inl pV)), (z, .inl (cI, S, .inl (upd Z1 (J t) ((Z1 (J t)) + (pV t)))))] := hD
        refine lv_iinc (v := nI (t + 1)) (lv' := [(3, .int (nI (t + 1))), (0, .ref o), (1, .ref z), (2, .int (nI i))]) hx hb dX1_addPendingTo_37 hl (k := 0) rfl (rv_inc _) (by decide) rfl (fun ls hl => ?_)
        refine lv_goto (tgt := 2) hx hb dX1_addPendingTo_40 (by decide) ?_
        exact ih2 (t + 1) (upd Z1 (J t) ((Z1 (J t)) + (pV t))) _ _ _ (by omega) (ms_accif (G := fun p => if pR p = nI i then pV p else 0) (if_pos hne) hZ) (hP.sub [0, 1, 2, 3, 4] rfl) (hD.sub [0, 1, 2, 3, 4] (by decide) rfl) hS (lv_sub hl [0, 1, 2, 3] rfl)
  exact L2 _ 0 Z _ _ _ (Nat.zero_add _) (fun j => (Int32.add_zero _).symm) (hP.sub [0, 1, 2, 3, 4] rfl) (hD.sub [0, 1, 2, 3, 4] (by decide) rfl) hS (lv_sub hl [0, 1, 2, 3] rfl)

set_option maxHeartbeats 4000000 in
set_option maxRecDepth 100000 in
theorem c_swapSupports (l : Launch) (D : va_G) (cI : ClassId) (o K R C su sp ar ac av vx py li np : Nat) : MetV l yX1_swapSupports wsX1_swapSupports rm_0 D [(cI, .int)] [.ref o] [(o, .inr (1, [.int (nI K), .int (nI R), .int (nI C), .ref su, .ref sp, .ref ar, .ref ac, .ref av, .int (nI np), .ref vx, .ref py, .ref li]))] (fun _ : Unit => True) (fun _ => [(o, .inr (1, [.int (nI K), .int (nI R), .int (nI C), .ref sp, .ref su, .ref ar, .ref ac, .ref av, .int (nI np), .ref vx, .ref py, .ref li]))]) 0 0 := by
  refine rs_V (cc := cX1_swapSupports) (maxL := 2) (by decide) rfl (Nat.le_of_ble_eq_true rfl) ?_
  intro p e s m args below meth c Q A ls hx hb hml hown hts hin hP hK hD hS hA hl ret
  have f33 := hts (.fieldLink RX1 33 "RowSparse" "support" "LRowSparse$Support;") (by decide +kernel)
  have f37 := hts (.fieldLink RX1 37 "RowSparse" "spare" "LRowSparse$Support;") (by decide +kernel)
  have hin1 : ∀ w ∈ u_ws RX1 TX1 12, w ∈ wsX1_swapSupports := by decide +kernel
  have hl : lv_has ls 2 [(0, .ref o)] := hl
  have hP : va_P D vwCl [(o, .inr (1, [.int (nI K), .int (nI R), .int (nI C), .ref su, .ref sp, .ref ar, .ref ac, .ref av, .int (nI np), .ref vx, .ref py, .ref li]))] s.heap := hP
  have hD : va_D A [(o, .inr (1, [.int (nI K), .int (nI R), .int (nI C), .ref su, .ref sp, .ref ar, .ref ac, .ref av, .int (nI np), .ref vx, .ref py, .ref li]))] := hD
  refine lv_aload_n hx hb dX1_swapSupports_0 rfl (lv_at hl 0 rfl) ?_
  refine va_get (D := D) (ci := 1) (v := .ref su) (C := RX1) (T := TX1) (N := 12) hx hb hts hin1 hown hK hP 0 rfl rfl 3 (by decide) f33 (fun _ h9 => h9) rfl dX1_swapSupports_1 ?_
  refine lv_astore_n (lv' := [(1, .ref su), (0, .ref o)]) hx hb dX1_swapSupports_4 rfl hl (by decide) rfl (fun ls hl => ?_)
  refine lv_aload_n hx hb dX1_swapSupports_5 rfl (lv_at hl 1 rfl) ?_
  refine lv_aload_n hx hb dX1_swapSupports_6 rfl (lv_at hl 1 rfl) ?_
  refine va_get (D := D) (ci := 1) (v := .ref sp) (C := RX1) (T := TX1) (N := 12) hx hb hts hin1 hown hK hP 0 rfl rfl 4 (by decide) f37 (fun _ h9 => h9) rfl dX1_swapSupports_7 ?_
  refine va_put (D := D) (ci := 1) (v := .ref sp) (ty := .object "RowSparse$Support") (C := RX1) (T := TX1) (N := 12) hx hb hts hin1 tyX1 tyX1_ok nmX1 hown hK hP hD hS 0 rfl rfl 3 (by decide) f33 (fun _ h9 => h9) rfl (by decide +kernel) rfl rfl (Nat.le_of_ble_eq_true rfl) dX1_swapSupports_10 (fun H locs hP hD hS => ?_)
  have hP : va_P D vwCl [(o, .inr (1, [.int (nI K), .int (nI R), .int (nI C), .ref sp, .ref sp, .ref ar, .ref ac, .ref av, .int (nI np), .ref vx, .ref py, .ref li]))] H := hP
  have hD : va_D A [(o, .inr (1, [.int (nI K), .int (nI R), .int (nI C), .ref sp, .ref sp, .ref ar, .ref ac, .ref av, .int (nI np), .ref vx, .ref py, .ref li]))] := hD
  refine lv_aload_n hx hb dX1_swapSupports_13 rfl (lv_at hl 1 rfl) ?_
  refine lv_aload_n hx hb dX1_swapSupports_14 rfl (lv_at hl 0 rfl) ?_
  refine va_put (D := D) (ci := 1) (v := .ref su) (ty := .object "RowSparse$Support") (C := RX1) (T := TX1) (N := 12) hx hb hts hin1 tyX1 tyX1_ok nmX1 hown hK hP hD hS 0 rfl rfl 4 (by decide) f37 (fun _ h9 => h9) rfl (by decide +kernel) rfl rfl (Nat.le_of_ble_eq_true rfl) dX1_swapSupports_15 (fun H locs hP hD hS => ?_)
  have hP : va_P D vwCl [(o, .inr (1, [.int (nI K), .int (nI R), .int (nI C), .ref sp, .ref su, .ref ar, .ref ac, .ref av, .int (nI np), .ref vx, .ref py, .ref li]))] H := hP
  have hD : va_D A [(o, .inr (1, [.int (nI K), .int (nI R), .int (nI C), .ref sp, .ref su, .ref ar, .ref ac, .ref av, .int (nI np), .ref vx, .ref py, .ref li]))] := hD
  exact ret _ _ _ _ () dX1_swapSupports_18 (trivial) (hP.sub [0] rfl) (hD.sub [0] (by decide) rfl) hS

set_option maxHeartbeats 4000000 in
set_option maxRecDepth 100000 in
theorem c_turns (l : Launch) (D : va_G) (cI : ClassId) (o K R C ta ot mo xx yy np : Nat) : MetV l yX2_turns wsX2_turns rm_0 D [(cI, .int)] [.ref o] [(o, .inr (2, [.int (nI K), .int (nI R), .int (nI C), .int (nI np), .ref ta, .ref ot, .ref mo, .ref xx, .ref yy]))] (fun _ : Unit => True) (fun _ => [(o, .inr (2, [.int (nI K), .int (nI R), .int (nI C), .int (nI np), .ref ot, .ref ta, .ref mo, .ref xx, .ref yy]))]) 0 0 := by
  refine rs_V (cc := cX2_turns) (maxL := 2) (by decide) rfl (Nat.le_of_ble_eq_true rfl) ?_
  intro p e s m args below meth c Q A ls hx hb hml hown hts hin hP hK hD hS hA hl ret
  have f7 := hts (.fieldLink RX2 7 "RowSparseModel" "table" "[I") (by decide +kernel)
  have f13 := hts (.fieldLink RX2 13 "RowSparseModel" "other" "[I") (by decide +kernel)
  have hin2 : ∀ w ∈ u_ws RX2 TX2 9, w ∈ wsX2_turns := by decide +kernel
  have hl : lv_has ls 2 [(0, .ref o)] := hl
  have hP : va_P D vwCl [(o, .inr (2, [.int (nI K), .int (nI R), .int (nI C), .int (nI np), .ref ta, .ref ot, .ref mo, .ref xx, .ref yy]))] s.heap := hP
  have hD : va_D A [(o, .inr (2, [.int (nI K), .int (nI R), .int (nI C), .int (nI np), .ref ta, .ref ot, .ref mo, .ref xx, .ref yy]))] := hD
  refine lv_aload_n hx hb dX2_turns_0 rfl (lv_at hl 0 rfl) ?_
  refine va_get (D := D) (ci := 2) (v := .ref ta) (C := RX2) (T := TX2) (N := 9) hx hb hts hin2 hown hK hP 0 rfl rfl 4 (by decide) f7 (fun _ h9 => h9) rfl dX2_turns_1 ?_
  refine lv_astore_n (lv' := [(1, .ref ta), (0, .ref o)]) hx hb dX2_turns_4 rfl hl (by decide) rfl (fun ls hl => ?_)
  refine lv_aload_n hx hb dX2_turns_5 rfl (lv_at hl 1 rfl) ?_
  refine lv_aload_n hx hb dX2_turns_6 rfl (lv_at hl 1 rfl) ?_
  refine va_get (D := D) (ci := 2) (v := .ref ot) (C := RX2) (T := TX2) (N := 9) hx hb hts hin2 hown hK hP 0 rfl rfl 5 (by decide) f13 (fun _ h9 => h9) rfl dX2_turns_7 ?_
  refine va_put (D := D) (ci := 2) (v := .ref ot) (ty := .array .int) (C := RX2) (T := TX2) (N := 9) hx hb hts hin2 tyX2 tyX2_ok nmX2 hown hK hP hD hS 0 rfl rfl 4 (by decide) f7 (fun _ h9 => h9) rfl (by decide +kernel) rfl rfl (Nat.le_of_ble_eq_true rfl) dX2_turns_10 (fun H locs hP hD hS => ?_)
  have hP : va_P D vwCl [(o, .inr (2, [.int (nI K), .int (nI R), .int (nI C), .int (nI np), .ref ot, .ref ot, .ref mo, .ref xx, .ref yy]))] H := hP
  have hD : va_D A [(o, .inr (2, [.int (nI K), .int (nI R), .int (nI C), .int (nI np), .ref ot, .ref ot, .ref mo, .ref xx, .ref yy]))] := hD
  refine lv_aload_n hx hb dX2_turns_13 rfl (lv_at hl 1 rfl) ?_
  refine lv_aload_n hx hb dX2_turns_14 rfl (lv_at hl 0 rfl) ?_
  refine va_put (D := D) (ci := 2) (v := .ref ta) (ty := .array .int) (C := RX2) (T := TX2) (N := 9) hx hb hts hin2 tyX2 tyX2_ok nmX2 hown hK hP hD hS 0 rfl rfl 5 (by decide) f13 (fun _ h9 => h9) rfl (by decide +kernel) rfl rfl (Nat.le_of_ble_eq_true rfl) dX2_turns_15 (fun H locs hP hD hS => ?_)
  have hP : va_P D vwCl [(o, .inr (2, [.int (nI K), .int (nI R), .int (nI C), .int (nI np), .ref ot, .ref ta, .ref mo, .ref xx, .ref yy]))] H := hP
  have hD : va_D A [(o, .inr (2, [.int (nI K), .int (nI R), .int (nI C), .int (nI np), .ref ot, .ref ta, .ref mo, .ref xx, .ref yy]))] := hD
  exact ret _ _ _ _ () dX2_turns_18 (trivial) (hP.sub [0] rfl) (hD.sub [0] (by decide) rfl) hS

set_option maxHeartbeats 4000000 in
set_option maxRecDepth 100000 in
theorem c_many (l : Launch) (D : va_G) (cI : ClassId) (o R C t u : Nat) (x0 x3 x4 x5 x6 x7 x8 : Value) (T : Nat → Int32) (hu : u ≤ 60) (hC : C ≤ 60) : MetR l yX2_many wsX2_many rm_0 D [(cI, .int)] [.ref o, .ref t, .int (nI u)] [(o, .inr (2, [x0, .int (nI R), .int (nI C), x3, x4, x5, x6, x7, x8])), (t, .inl (cI, 3600, .inl T))] (fun r => r = nI (ms_sc (fun i j => T (60 * i + j)) C u)) := by
  refine rs_R (cc := cX2_many) (maxL := 6) (rty := .int) (by decide) rfl (Nat.le_of_ble_eq_true rfl) ?_
  intro p e s m args below meth c Q ls hx hb hml hown hts hP hK hl ret
  have f33 := hts (.fieldLink RX2 33 "RowSparseModel" "cols" "I") (by decide +kernel)
  have hin2 : ∀ w ∈ u_ws RX2 TX2 9, w ∈ wsX2_many := by decide +kernel
  have hl : lv_has ls 6 [(0, .ref o), (1, .ref t), (2, .int (nI u))] := hl
  have hP : va_P D vwCl [(o, .inr (2, [x0, .int (nI R), .int (nI C), x3, x4, x5, x6, x7, x8])), (t, .inl (cI, 3600, .inl T))] s.heap := hP
  refine lv_iconst (v := nI 0) hx hb dX2_many_0 (by decide +kernel) ?_
  refine lv_istore_n (lv' := [(3, .int (nI 0)), (0, .ref o), (1, .ref t), (2, .int (nI u))]) hx hb dX2_many_1 rfl hl (by decide) rfl (fun ls hl => ?_)
  refine lv_iconst (v := nI 0) hx hb dX2_many_2 (by decide +kernel) ?_
  refine lv_istore (lv' := [(4, .int (nI 0)), (3, .int (nI 0)), (0, .ref o), (1, .ref t), (2, .int (nI u))]) hx hb dX2_many_3 hl (by decide) rfl (fun ls hl => ?_)
  have L5 : ∀ (k5 : Nat) (i : Nat) (ls : Array Slot), i + k5 = u → lv_has ls 6 [(4, .int (nI i)), (3, .int (nI (ms_sc (fun i j => T (60 * i + j)) C i))), (0, .ref o), (1, .ref t), (2, .int (nI u))] → W p l e rm_0 s m args below meth c s.heap [] 0 0 Q (F0 m 5 ls []) := by
    intro k5
    induction k5 with
    | zero =>
      intro i ls hk5 hl
      refine lv_iload hx hb dX2_many_5 (lv_at hl 0 rfl) ?_
      refine lv_iload_n hx hb dX2_many_7 rfl (lv_at hl 4 rfl) ?_
      refine rv_ge_t (tgt := 56) hx hb dX2_many_8 (by decide) (by omega) (by omega) ?_
      refine lv_iload_n hx hb dX2_many_56 rfl (lv_at hl 1 rfl) ?_
      exact ret _ _ _ dX2_many_57 (rfl) (by rw [show u = i by omega])
    | succ k5 ih5 =>
      intro i ls hk5 hl
      refine lv_iload hx hb dX2_many_5 (lv_at hl 0 rfl) ?_
      refine lv_iload_n hx hb dX2_many_7 rfl (lv_at hl 4 rfl) ?_
      refine rv_ge_f (tgt := 56) hx hb dX2_many_8 (by decide) (by omega) (by omega) ?_
      refine lv_iconst (v := nI 0) hx hb dX2_many_11 (by decide +kernel) ?_
      refine lv_istore (lv' := [(5, .int (nI 0)), (4, .int (nI i)), (3, .int (nI (ms_sc (fun i j => T (60 * i + j)) C i))), (0, .ref o), (1, .ref t), (2, .int (nI u))]) hx hb dX2_many_12 hl (by decide) rfl (fun ls hl => ?_)
      have L14 : ∀ (k14 : Nat) (j : Nat) (ls : Array Slot), j + k14 = C → lv_has ls 6 [(5, .int (nI j)), (3, .int (nI (ms_sc (fun i j => T (60 * i + j)) C i + ms_rc (fun j => T (60 * i + j)) j))), (4, .int (nI i)), (0, .ref o), (1, .ref t), (2, .int (nI u))] → W p l e rm_0 s m args below meth c s.heap [] 0 0 Q (F0 m 14 ls []) := by
        intro k14
        induction k14 with
        | zero =>
          intro j ls hk14 hl
          have ej : ms_sc (fun i j => T (60 * i + j)) C i + ms_rc (fun j => T (60 * i + j)) j = ms_sc (fun i j => T (60 * i + j)) C (i + 1) := by rw [show j = C by omega]; rfl
          rw [ej] at hl
          refine lv_iload hx hb dX2_many_14 (lv_at hl 0 rfl) ?_
          refine lv_aload_n hx hb dX2_many_16 rfl (lv_at hl 3 rfl) ?_
          refine va_get (D := D) (ci := 2) (v := .int (nI C)) (C := RX2) (T := TX2) (N := 9) hx hb hts hin2 hown hK hP 0 rfl rfl 2 (by decide) f33 (fun _ h9 => h9) rfl dX2_many_17 ?_
          refine rv_ge_t (tgt := 50) hx hb dX2_many_20 (by decide) (by omega) (by omega) ?_
          refine lv_iinc (v := nI (i + 1)) (lv' := [(4, .int (nI (i + 1))), (5, .int (nI j)), (3, .int (nI (ms_sc (fun i j => T (60 * i + j)) C (i + 1)))), (0, .ref o), (1, .ref t), (2, .int (nI u))]) hx hb dX2_many_50 hl (k := 2) rfl (rv_inc _) (by decide) rfl (fun ls hl => ?_)
          refine lv_goto (tgt := 5) hx hb dX2_many_53 (by decide) ?_
          exact ih5 (i + 1) _ (by omega) (lv_sub hl [0, 2, 3, 4, 5] rfl)
        | succ k14 ih14 =>
          intro j ls hk14 hl
          refine lv_iload hx hb dX2_many_14 (lv_at hl 0 rfl) ?_
          refine lv_aload_n hx hb dX2_many_16 rfl (lv_at hl 3 rfl) ?_
          refine va_get (D := D) (ci := 2) (v := .int (nI C)) (C := RX2) (T := TX2) (N := 9) hx hb hts hin2 hown hK hP 0 rfl rfl 2 (by decide) f33 (fun _ h9 => h9) rfl dX2_many_17 ?_
          refine rv_ge_f (tgt := 50) hx hb dX2_many_20 (by decide) (by omega) (by omega) ?_
          refine lv_iload_n hx hb dX2_many_23 rfl (lv_at hl 1 rfl) ?_
          refine lv_aload_n hx hb dX2_many_24 rfl (lv_at hl 4 rfl) ?_
          refine lv_bipush (v := nI 60) hx hb dX2_many_25 (by decide +kernel) ?_
          refine lv_iload hx hb dX2_many_27 (lv_at hl 2 rfl) ?_
          refine rv_imul hx hb dX2_many_29 ?_
          refine lv_iload hx hb dX2_many_30 (lv_at hl 0 rfl) ?_
          refine rv_iadd hx hb dX2_many_32 ?_
          refine rv_iald hx hb hK hP 1 rfl rfl (by omega) (by omega) dX2_many_33 ?_
          refine lv_if_eq (tgt := 41) hx hb dX2_many_34 (by decide) (fun hz => ?_) (fun hz => ?_)
          · refine lv_iconst (v := nI 0) hx hb dX2_many_41 (by decide +kernel) ?_
            refine rv_iadd hx hb dX2_many_42 ?_
            refine lv_istore_n (lv' := [(3, .int (nI ((ms_sc (fun i j => T (60 * i + j)) C i + ms_rc (fun j => T (60 * i + j)) j) + 0))), (5, .int (nI j)), (4, .int (nI i)), (0, .ref o), (1, .ref t), (2, .int (nI u))]) hx hb dX2_many_43 rfl hl (by decide) rfl (fun ls hl => ?_)
            refine lv_iinc (v := nI (j + 1)) (lv' := [(5, .int (nI (j + 1))), (3, .int (nI ((ms_sc (fun i j => T (60 * i + j)) C i + ms_rc (fun j => T (60 * i + j)) j) + 0))), (4, .int (nI i)), (0, .ref o), (1, .ref t), (2, .int (nI u))]) hx hb dX2_many_44 hl (k := 1) rfl (rv_inc _) (by decide) rfl (fun ls hl => ?_)
            refine lv_goto (tgt := 14) hx hb dX2_many_47 (by decide) ?_
            have ez : ms_sc (fun i j => T (60 * i + j)) C i + ms_rc (fun j => T (60 * i + j)) j + 0 = ms_sc (fun i j => T (60 * i + j)) C i + ms_rc (fun j => T (60 * i + j)) (j + 1) := by rw [ms_rc_no (p := fun j => T (60 * i + j)) hz]; rfl
            rw [ez] at hl
            exact ih14 (j + 1) _ (by omega) (lv_sub hl [0, 1, 2, 3, 4, 5] rfl)
          · refine lv_iconst (v := nI 1) hx hb dX2_many_37 (by decide +kernel) ?_
            refine lv_goto (tgt := 42) hx hb dX2_many_38 (by decide) ?_
            refine rv_iadd hx hb dX2_many_42 ?_
            refine lv_istore_n (lv' := [(3, .int (nI ((ms_sc (fun i j => T (60 * i + j)) C i + ms_rc (fun j => T (60 * i + j)) j) + 1))), (5, .int (nI j)), (4, .int (nI i)), (0, .ref o), (1, .ref t), (2, .int (nI u))]) hx hb dX2_many_43 rfl hl (by decide) rfl (fun ls hl => ?_)
            refine lv_iinc (v := nI (j + 1)) (lv' := [(5, .int (nI (j + 1))), (3, .int (nI ((ms_sc (fun i j => T (60 * i + j)) C i + ms_rc (fun j => T (60 * i + j)) j) + 1))), (4, .int (nI i)), (0, .ref o), (1, .ref t), (2, .int (nI u))]) hx hb dX2_many_44 hl (k := 1) rfl (rv_inc _) (by decide) rfl (fun ls hl => ?_)
            refine lv_goto (tgt := 14) hx hb dX2_many_47 (by decide) ?_
            have ez : ms_sc (fun i j => T (60 * i + j)) C i + ms_rc (fun j => T (60 * i + j)) j + 1 = ms_sc (fun i j => T (60 * i + j)) C i + ms_rc (fun j => T (60 * i + j)) (j + 1) := by rw [ms_rc_yes (p := fun j => T (60 * i + j)) hz]; rfl
            rw [ez] at hl
            exact ih14 (j + 1) _ (by omega) (lv_sub hl [0, 1, 2, 3, 4, 5] rfl)
      exact L14 _ 0 _ (Nat.zero_add _) (lv_sub hl [0, 2, 1, 3, 4, 5] rfl)
  exact L5 _ 0 _ (Nat.zero_add _) (lv_sub hl [0, 1, 2, 3, 4] rfl)
