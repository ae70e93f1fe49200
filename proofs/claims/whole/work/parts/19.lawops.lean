/-- the law's loop at its head: class and reference hold one state -/
def lw_N (p : Program) (l : Launch) (e : Env) (s : State) (m : MethodId) (below : List Frame) (meth : Method) (c : Code) (b : Nat) (D : va_G) (cI : ClassId) (o ar ac av vx py li o2 mo xx yy : Nat) (i : Nat) : Prop := ∀ (a : st_A) (u : st_C) (v : st_M) (H : Heap) (locs : List Loc) (ls : Array Slot), st_rc a u → st_rm a v → va_P D vwCl (st_wC cI o ar ac av vx py li a u) H → va_P D vwCl (st_wM cI o2 mo xx yy a v) H → va_D (fun q : Nat => s.heap.size ≤ q) ((st_wC cI o ar ac av vx py li a u) ++ (st_wM cI o2 mo xx yy a v)) → va_S (fun q : Nat => s.heap.size ≤ q) s.heap H locs → lv_has ls 4 [(0, .ref b), (1, .ref o), (2, .ref o2), (3, .int (nI i))] → W p l e room_1 s m #[Value.ref b] below meth c H locs 600000 7302250 (lw_Z below #[Value.ref b] s) (F0 m 48 ls [])
set_option maxHeartbeats 4000000 in
set_option maxRecDepth 100000 in
theorem law_add {p : Program} {l : Launch} {e : Env} {s : State} {m : MethodId} {below : List Frame} {meth : Method} {c : Code} {b L : Nat} {xs : Nat → Int32} {D : va_G} {cI : ClassId} {o ar ac av vx py li o2 mo xx yy : Nat} (hL : L ≤ 2051) (C0 : lw_At p s m meth c b L xs) (hK : va_K D vwCl [(cI, .int)] s) {i : Nat} (hi : i + 4 ≤ L) (nx : lw_N p l e s m below meth c b D cI o ar ac av vx py li o2 mo xx yy (i + 4)) (a : st_A) (u : st_C) (v : st_M) (H : Heap) (locs : List Loc) (ls : Array Slot) : st_rc a u → st_rm a v → va_P D vwCl (st_wC cI o ar ac av vx py li a u) H → va_P D vwCl (st_wM cI o2 mo xx yy a v) H → va_D (fun q : Nat => s.heap.size ≤ q) ((st_wC cI o ar ac av vx py li a u) ++ (st_wM cI o2 mo xx yy a v)) → va_S (fun q : Nat => s.heap.size ≤ q) s.heap H locs → lv_has ls 4 [(0, .ref b), (1, .ref o), (2, .ref o2), (3, .int (nI i))] → W p l e room_1 s m #[Value.ref b] below meth c H locs 600000 7302250 (lw_Z below #[Value.ref b] s) (F0 m 124 ls []) := by
  intro hrc hrm hPC hPM hD hS hl
  obtain ⟨hx, hb, hr, hml, hown, hts0, hX, hbl, hlocks, hgv⟩ := id C0
  have hts := fun w h => hts0 w (wsL_law_in w h)
  have hA : ∀ q : Nat, s.heap.size ≤ q → (fun q : Nat => s.heap.size ≤ q) q := fun _ h => h
  have hbA : ¬ (fun q : Nat => s.heap.size ≤ q) b := Nat.not_le.mpr hbl
  refine lv_aload_n hx hb dL_law_124 rfl (lv_at hl 1 rfl) ?_
  refine lv_aload_n hx hb dL_law_125 rfl (lv_at hl 0 rfl) ?_
  refine lv_iload_n hx hb dL_law_126 rfl (lv_at hl 3 rfl) ?_
  refine lv_iconst (v := nI 1) hx hb dL_law_127 (by decide +kernel) ?_
  refine rv_iadd hx hb dL_law_128 ?_
  refine rs_sld hx hb hX hbl hbA hS (show i + 1 < L by omega) (by omega) dL_law_129 ?_
  refine lv_aload_n hx hb dL_law_130 rfl (lv_at hl 0 rfl) ?_
  refine lv_iload_n hx hb dL_law_131 rfl (lv_at hl 3 rfl) ?_
  refine lv_iconst (v := nI 2) hx hb dL_law_132 (by decide +kernel) ?_
  refine rv_iadd hx hb dL_law_133 ?_
  refine rs_sld hx hb hX hbl hbA hS (show i + 2 < L by omega) (by omega) dL_law_134 ?_
  refine lv_aload_n hx hb dL_law_135 rfl (lv_at hl 0 rfl) ?_
  refine lv_iload_n hx hb dL_law_136 rfl (lv_at hl 3 rfl) ?_
  refine lv_iconst (v := nI 3) hx hb dL_law_137 (by decide +kernel) ?_
  refine rv_iadd hx hb dL_law_138 ?_
  refine rs_sld hx hb hX hbl hbA hS (show i + 3 < L by omega) (by omega) dL_law_139 ?_
  refine rs_LI (As := [.int (xs (i + 1)), .int (xs (i + 2)), .int (xs (i + 3))]) (rest := []) ⟨hx, hb, hml, hown, hts⟩ hl.1 (c_add l D cI o ar ac av vx py li a u hrc (xs (i + 1)) (xs (i + 2)) (xs (i + 3))) (cwV 3 hts gL_law_X1_add rfl rfl rfl (by decide +kernel) ⟨Nat.le_of_ble_eq_true rfl, Nat.le_of_ble_eq_true rfl⟩) hK hPC hPM hD hS hA rfl (st_hC cI o ar ac av vx py li a u) rfl rfl (Nat.le_of_ble_eq_true rfl) dL_law_140 (Nat.le_of_ble_eq_true rfl) (Nat.le_of_ble_eq_true rfl) (fun r1 x1 H locs h1 hPC hPM hD hS => ?_)
  obtain ⟨a1, u1⟩ := x1
  obtain ⟨h1, ea, hrc1⟩ := h1
  have ea : a1 = up_add a (xs (i + 1)) (xs (i + 2)) (xs (i + 3)) := ea
  subst ea
  have hPC : va_P D vwCl (st_wC cI o ar ac av vx py li (up_add a (xs (i + 1)) (xs (i + 2)) (xs (i + 3))) u1) H := hPC
  have hD : va_D (fun q : Nat => s.heap.size ≤ q) ((st_wC cI o ar ac av vx py li (up_add a (xs (i + 1)) (xs (i + 2)) (xs (i + 3))) u1) ++ (st_wM cI o2 mo xx yy a v)) := hD
  refine lv_aload_n hx hb dL_law_143 rfl (lv_at hl 2 rfl) ?_
  refine lv_aload_n hx hb dL_law_144 rfl (lv_at hl 0 rfl) ?_
  refine lv_iload_n hx hb dL_law_145 rfl (lv_at hl 3 rfl) ?_
  refine lv_iconst (v := nI 1) hx hb dL_law_146 (by decide +kernel) ?_
  refine rv_iadd hx hb dL_law_147 ?_
  refine rs_sld hx hb hX hbl hbA hS (show i + 1 < L by omega) (by omega) dL_law_148 ?_
  refine lv_aload_n hx hb dL_law_149 rfl (lv_at hl 0 rfl) ?_
  refine lv_iload_n hx hb dL_law_150 rfl (lv_at hl 3 rfl) ?_
  refine lv_iconst (v := nI 2) hx hb dL_law_151 (by decide +kernel) ?_
  refine rv_iadd hx hb dL_law_152 ?_
  refine rs_sld hx hb hX hbl hbA hS (show i + 2 < L by omega) (by omega) dL_law_153 ?_
  refine lv_aload_n hx hb dL_law_154 rfl (lv_at hl 0 rfl) ?_
  refine lv_iload_n hx hb dL_law_155 rfl (lv_at hl 3 rfl) ?_
  refine lv_iconst (v := nI 3) hx hb dL_law_156 (by decide +kernel) ?_
  refine rv_iadd hx hb dL_law_157 ?_
  refine rs_sld hx hb hX hbl hbA hS (show i + 3 < L by omega) (by omega) dL_law_158 ?_
  refine rs_LI (As := [.int (xs (i + 1)), .int (xs (i + 2)), .int (xs (i + 3))]) (rest := [.int r1]) ⟨hx, hb, hml, hown, hts⟩ hl.1 (d_add l D cI o2 mo xx yy a v hrm (xs (i + 1)) (xs (i + 2)) (xs (i + 3))) (cwV 3 hts gL_law_X2_add rfl rfl rfl (by decide +kernel) ⟨Nat.le_of_ble_eq_true rfl, Nat.le_of_ble_eq_true rfl⟩) hK hPM hPC (rs_swap hD) hS hA rfl (st_hM cI o2 mo xx yy a v) rfl rfl (Nat.le_of_ble_eq_true rfl) dL_law_159 (Nat.le_of_ble_eq_true rfl) (Nat.le_of_ble_eq_true rfl) (fun r2 x2 H locs h2 hPM hPC hD hS => ?_)
  obtain ⟨a2, v1⟩ := x2
  obtain ⟨h2, ea, hrm1⟩ := h2
  have ea : a2 = up_add a (xs (i + 1)) (xs (i + 2)) (xs (i + 3)) := ea
  subst ea
  have hPM : va_P D vwCl (st_wM cI o2 mo xx yy (up_add a (xs (i + 1)) (xs (i + 2)) (xs (i + 3))) v1) H := hPM
  have hD : va_D (fun q : Nat => s.heap.size ≤ q) ((st_wC cI o ar ac av vx py li (up_add a (xs (i + 1)) (xs (i + 2)) (xs (i + 3))) u1) ++ (st_wM cI o2 mo xx yy (up_add a (xs (i + 1)) (xs (i + 2)) (xs (i + 3))) v1)) := rs_swap hD
  refine rv_iceq_t (tgt := 390) hx hb dL_law_162 (by decide) (h1.trans h2.symm) ?_
  refine lv_iinc (v := nI (i + 4)) (lv' := [(3, .int (nI (i + 4))), (0, .ref b), (1, .ref o), (2, .ref o2)]) hx hb dL_law_390 hl (k := 3) rfl (rv_inc4 _) (by decide) rfl (fun ls hl => ?_)
  refine lv_goto (tgt := 48) hx hb dL_law_393 (by decide) ?_
  exact nx (up_add a (xs (i + 1)) (xs (i + 2)) (xs (i + 3))) u1 v1 _ _ _ hrc1 hrm1 hPC hPM hD hS (lv_sub hl [1, 2, 3, 0] rfl)

set_option maxHeartbeats 4000000 in
set_option maxRecDepth 100000 in
theorem law_build {p : Program} {l : Launch} {e : Env} {s : State} {m : MethodId} {below : List Frame} {meth : Method} {c : Code} {b L : Nat} {xs : Nat → Int32} {D : va_G} {cI : ClassId} {o ar ac av vx py li o2 mo xx yy : Nat} (hL : L ≤ 2051) (C0 : lw_At p s m meth c b L xs) (hK : va_K D vwCl [(cI, .int)] s) {i : Nat} (hi : i + 4 ≤ L) (nx : lw_N p l e s m below meth c b D cI o ar ac av vx py li o2 mo xx yy (i + 4)) (a : st_A) (u : st_C) (v : st_M) (H : Heap) (locs : List Loc) (ls : Array Slot) : st_rc a u → st_rm a v → va_P D vwCl (st_wC cI o ar ac av vx py li a u) H → va_P D vwCl (st_wM cI o2 mo xx yy a v) H → va_D (fun q : Nat => s.heap.size ≤ q) ((st_wC cI o ar ac av vx py li a u) ++ (st_wM cI o2 mo xx yy a v)) → va_S (fun q : Nat => s.heap.size ≤ q) s.heap H locs → lv_has ls 4 [(0, .ref b), (1, .ref o), (2, .ref o2), (3, .int (nI i))] → W p l e room_1 s m #[Value.ref b] below meth c H locs 600000 7302250 (lw_Z below #[Value.ref b] s) (F0 m 167 ls []) := by
  intro hrc hrm hPC hPM hD hS hl
  obtain ⟨hx, hb, hr, hml, hown, hts0, hX, hbl, hlocks, hgv⟩ := id C0
  have hts := fun w h => hts0 w (wsL_law_in w h)
  have hA : ∀ q : Nat, s.heap.size ≤ q → (fun q : Nat => s.heap.size ≤ q) q := fun _ h => h
  have hbA : ¬ (fun q : Nat => s.heap.size ≤ q) b := Nat.not_le.mpr hbl
  refine lv_aload_n hx hb dL_law_167 rfl (lv_at hl 1 rfl) ?_
  refine rs_LI (As := []) (rest := []) ⟨hx, hb, hml, hown, hts⟩ hl.1 (c_build l D cI o ar ac av vx py li a u hrc) (cwV 0 hts gL_law_X1_build rfl rfl rfl (by decide +kernel) ⟨Nat.le_of_ble_eq_true rfl, Nat.le_of_ble_eq_true rfl⟩) hK hPC hPM hD hS hA rfl (st_hC cI o ar ac av vx py li a u) rfl rfl (Nat.le_of_ble_eq_true rfl) dL_law_168 (Nat.le_of_ble_eq_true rfl) (Nat.le_of_ble_eq_true rfl) (fun r1 x1 H locs h1 hPC hPM hD hS => ?_)
  obtain ⟨a1, u1⟩ := x1
  obtain ⟨h1, ea, hrc1⟩ := h1
  have ea : a1 = up_build a := ea
  subst ea
  have hPC : va_P D vwCl (st_wC cI o ar ac av vx py li (up_build a) u1) H := hPC
  have hD : va_D (fun q : Nat => s.heap.size ≤ q) ((st_wC cI o ar ac av vx py li (up_build a) u1) ++ (st_wM cI o2 mo xx yy a v)) := hD
  refine lv_aload_n hx hb dL_law_171 rfl (lv_at hl 2 rfl) ?_
  refine rs_LI (As := []) (rest := [.int r1]) ⟨hx, hb, hml, hown, hts⟩ hl.1 (d_build l D cI o2 mo xx yy a v hrm) (cwV 0 hts gL_law_X2_build rfl rfl rfl (by decide +kernel) ⟨Nat.le_of_ble_eq_true rfl, Nat.le_of_ble_eq_true rfl⟩) hK hPM hPC (rs_swap hD) hS hA rfl (st_hM cI o2 mo xx yy a v) rfl rfl (Nat.le_of_ble_eq_true rfl) dL_law_172 (Nat.le_of_ble_eq_true rfl) (Nat.le_of_ble_eq_true rfl) (fun r2 x2 H locs h2 hPM hPC hD hS => ?_)
  obtain ⟨a2, v1⟩ := x2
  obtain ⟨h2, ea, hrm1⟩ := h2
  have ea : a2 = up_build a := ea
  subst ea
  have hPM : va_P D vwCl (st_wM cI o2 mo xx yy (up_build a) v1) H := hPM
  have hD : va_D (fun q : Nat => s.heap.size ≤ q) ((st_wC cI o ar ac av vx py li (up_build a) u1) ++ (st_wM cI o2 mo xx yy (up_build a) v1)) := rs_swap hD
  refine rv_iceq_t (tgt := 390) hx hb dL_law_175 (by decide) (h1.trans h2.symm) ?_
  refine lv_iinc (v := nI (i + 4)) (lv' := [(3, .int (nI (i + 4))), (0, .ref b), (1, .ref o), (2, .ref o2)]) hx hb dL_law_390 hl (k := 3) rfl (rv_inc4 _) (by decide) rfl (fun ls hl => ?_)
  refine lv_goto (tgt := 48) hx hb dL_law_393 (by decide) ?_
  exact nx (up_build a) u1 v1 _ _ _ hrc1 hrm1 hPC hPM hD hS (lv_sub hl [1, 2, 3, 0] rfl)

set_option maxHeartbeats 4000000 in
set_option maxRecDepth 100000 in
theorem law_nnz {p : Program} {l : Launch} {e : Env} {s : State} {m : MethodId} {below : List Frame} {meth : Method} {c : Code} {b L : Nat} {xs : Nat → Int32} {D : va_G} {cI : ClassId} {o ar ac av vx py li o2 mo xx yy : Nat} (hL : L ≤ 2051) (C0 : lw_At p s m meth c b L xs) (hK : va_K D vwCl [(cI, .int)] s) {i : Nat} (hi : i + 4 ≤ L) (nx : lw_N p l e s m below meth c b D cI o ar ac av vx py li o2 mo xx yy (i + 4)) (a : st_A) (u : st_C) (v : st_M) (H : Heap) (locs : List Loc) (ls : Array Slot) : st_rc a u → st_rm a v → va_P D vwCl (st_wC cI o ar ac av vx py li a u) H → va_P D vwCl (st_wM cI o2 mo xx yy a v) H → va_D (fun q : Nat => s.heap.size ≤ q) ((st_wC cI o ar ac av vx py li a u) ++ (st_wM cI o2 mo xx yy a v)) → va_S (fun q : Nat => s.heap.size ≤ q) s.heap H locs → lv_has ls 4 [(0, .ref b), (1, .ref o), (2, .ref o2), (3, .int (nI i))] → W p l e room_1 s m #[Value.ref b] below meth c H locs 600000 7302250 (lw_Z below #[Value.ref b] s) (F0 m 180 ls []) := by
  intro hrc hrm hPC hPM hD hS hl
  obtain ⟨hx, hb, hr, hml, hown, hts0, hX, hbl, hlocks, hgv⟩ := id C0
  have hts := fun w h => hts0 w (wsL_law_in w h)
  have hA : ∀ q : Nat, s.heap.size ≤ q → (fun q : Nat => s.heap.size ≤ q) q := fun _ h => h
  have hbA : ¬ (fun q : Nat => s.heap.size ≤ q) b := Nat.not_le.mpr hbl
  refine lv_aload_n hx hb dL_law_180 rfl (lv_at hl 1 rfl) ?_
  refine rs_LR (As := []) (rest := []) ⟨hx, hb, hml, hown, hts⟩ hl.1 (c_nnz l D cI o ar ac av vx py li a u hrc) (cwV 0 hts gL_law_X1_nnz rfl rfl rfl (by decide +kernel) ⟨Nat.le_of_ble_eq_true rfl, Nat.le_of_ble_eq_true rfl⟩) hK hPC rfl (st_hC cI o ar ac av vx py li a u) rfl rfl (Nat.le_of_ble_eq_true rfl) dL_law_181 (Nat.le_of_ble_eq_true rfl) (Nat.le_of_ble_eq_true rfl) (fun r1 h1 => ?_)
  refine lv_aload_n hx hb dL_law_184 rfl (lv_at hl 2 rfl) ?_
  refine rs_LR (As := []) (rest := [.int r1]) ⟨hx, hb, hml, hown, hts⟩ hl.1 (d_nnz l D cI o2 mo xx yy a v hrm) (cwV 0 hts gL_law_X2_nnz rfl rfl rfl (by decide +kernel) ⟨Nat.le_of_ble_eq_true rfl, Nat.le_of_ble_eq_true rfl⟩) hK hPM rfl (st_hM cI o2 mo xx yy a v) rfl rfl (Nat.le_of_ble_eq_true rfl) dL_law_185 (Nat.le_of_ble_eq_true rfl) (Nat.le_of_ble_eq_true rfl) (fun r2 h2 => ?_)
  refine rv_iceq_t (tgt := 390) hx hb dL_law_188 (by decide) (h1.trans h2.symm) ?_
  refine lv_iinc (v := nI (i + 4)) (lv' := [(3, .int (nI (i + 4))), (0, .ref b), (1, .ref o), (2, .ref o2)]) hx hb dL_law_390 hl (k := 3) rfl (rv_inc4 _) (by decide) rfl (fun ls hl => ?_)
  refine lv_goto (tgt := 48) hx hb dL_law_393 (by decide) ?_
  exact nx a u v _ _ _ hrc hrm hPC hPM hD hS (lv_sub hl [1, 2, 3, 0] rfl)

set_option maxHeartbeats 4000000 in
set_option maxRecDepth 100000 in
theorem law_at {p : Program} {l : Launch} {e : Env} {s : State} {m : MethodId} {below : List Frame} {meth : Method} {c : Code} {b L : Nat} {xs : Nat → Int32} {D : va_G} {cI : ClassId} {o ar ac av vx py li o2 mo xx yy : Nat} (hL : L ≤ 2051) (C0 : lw_At p s m meth c b L xs) (hK : va_K D vwCl [(cI, .int)] s) {i : Nat} (hi : i + 4 ≤ L) (nx : lw_N p l e s m below meth c b D cI o ar ac av vx py li o2 mo xx yy (i + 4)) (a : st_A) (u : st_C) (v : st_M) (H : Heap) (locs : List Loc) (ls : Array Slot) : st_rc a u → st_rm a v → va_P D vwCl (st_wC cI o ar ac av vx py li a u) H → va_P D vwCl (st_wM cI o2 mo xx yy a v) H → va_D (fun q : Nat => s.heap.size ≤ q) ((st_wC cI o ar ac av vx py li a u) ++ (st_wM cI o2 mo xx yy a v)) → va_S (fun q : Nat => s.heap.size ≤ q) s.heap H locs → lv_has ls 4 [(0, .ref b), (1, .ref o), (2, .ref o2), (3, .int (nI i))] → W p l e room_1 s m #[Value.ref b] below meth c H locs 600000 7302250 (lw_Z below #[Value.ref b] s) (F0 m 193 ls []) := by
  intro hrc hrm hPC hPM hD hS hl
  obtain ⟨hx, hb, hr, hml, hown, hts0, hX, hbl, hlocks, hgv⟩ := id C0
  have hts := fun w h => hts0 w (wsL_law_in w h)
  have hA : ∀ q : Nat, s.heap.size ≤ q → (fun q : Nat => s.heap.size ≤ q) q := fun _ h => h
  have hbA : ¬ (fun q : Nat => s.heap.size ≤ q) b := Nat.not_le.mpr hbl
  refine lv_aload_n hx hb dL_law_193 rfl (lv_at hl 1 rfl) ?_
  refine lv_aload_n hx hb dL_law_194 rfl (lv_at hl 0 rfl) ?_
  refine lv_iload_n hx hb dL_law_195 rfl (lv_at hl 3 rfl) ?_
  refine lv_iconst (v := nI 1) hx hb dL_law_196 (by decide +kernel) ?_
  refine rv_iadd hx hb dL_law_197 ?_
  refine rs_sld hx hb hX hbl hbA hS (show i + 1 < L by omega) (by omega) dL_law_198 ?_
  refine lv_aload_n hx hb dL_law_199 rfl (lv_at hl 0 rfl) ?_
  refine lv_iload_n hx hb dL_law_200 rfl (lv_at hl 3 rfl) ?_
  refine lv_iconst (v := nI 2) hx hb dL_law_201 (by decide +kernel) ?_
  refine rv_iadd hx hb dL_law_202 ?_
  refine rs_sld hx hb hX hbl hbA hS (show i + 2 < L by omega) (by omega) dL_law_203 ?_
  refine rs_LR (As := [.int (xs (i + 1)), .int (xs (i + 2))]) (rest := []) ⟨hx, hb, hml, hown, hts⟩ hl.1 (c_at l D cI o ar ac av vx py li a u hrc (xs (i + 1)) (xs (i + 2))) (cwV 2 hts gL_law_X1_at rfl rfl rfl (by decide +kernel) ⟨Nat.le_of_ble_eq_true rfl, Nat.le_of_ble_eq_true rfl⟩) hK hPC rfl (st_hC cI o ar ac av vx py li a u) rfl rfl (Nat.le_of_ble_eq_true rfl) dL_law_204 (Nat.le_of_ble_eq_true rfl) (Nat.le_of_ble_eq_true rfl) (fun r1 h1 => ?_)
  refine lv_aload_n hx hb dL_law_207 rfl (lv_at hl 2 rfl) ?_
  refine lv_aload_n hx hb dL_law_208 rfl (lv_at hl 0 rfl) ?_
  refine lv_iload_n hx hb dL_law_209 rfl (lv_at hl 3 rfl) ?_
  refine lv_iconst (v := nI 1) hx hb dL_law_210 (by decide +kernel) ?_
  refine rv_iadd hx hb dL_law_211 ?_
  refine rs_sld hx hb hX hbl hbA hS (show i + 1 < L by omega) (by omega) dL_law_212 ?_
  refine lv_aload_n hx hb dL_law_213 rfl (lv_at hl 0 rfl) ?_
  refine lv_iload_n hx hb dL_law_214 rfl (lv_at hl 3 rfl) ?_
  refine lv_iconst (v := nI 2) hx hb dL_law_215 (by decide +kernel) ?_
  refine rv_iadd hx hb dL_law_216 ?_
  refine rs_sld hx hb hX hbl hbA hS (show i + 2 < L by omega) (by omega) dL_law_217 ?_
  refine rs_LR (As := [.int (xs (i + 1)), .int (xs (i + 2))]) (rest := [.int r1]) ⟨hx, hb, hml, hown, hts⟩ hl.1 (d_at l D cI o2 mo xx yy a v hrm (xs (i + 1)) (xs (i + 2))) (cwV 2 hts gL_law_X2_at rfl rfl rfl (by decide +kernel) ⟨Nat.le_of_ble_eq_true rfl, Nat.le_of_ble_eq_true rfl⟩) hK hPM rfl (st_hM cI o2 mo xx yy a v) rfl rfl (Nat.le_of_ble_eq_true rfl) dL_law_218 (Nat.le_of_ble_eq_true rfl) (Nat.le_of_ble_eq_true rfl) (fun r2 h2 => ?_)
  refine rv_iceq_t (tgt := 390) hx hb dL_law_221 (by decide) (h1.trans h2.symm) ?_
  refine lv_iinc (v := nI (i + 4)) (lv' := [(3, .int (nI (i + 4))), (0, .ref b), (1, .ref o), (2, .ref o2)]) hx hb dL_law_390 hl (k := 3) rfl (rv_inc4 _) (by decide) rfl (fun ls hl => ?_)
  refine lv_goto (tgt := 48) hx hb dL_law_393 (by decide) ?_
  exact nx a u v _ _ _ hrc hrm hPC hPM hD hS (lv_sub hl [1, 2, 3, 0] rfl)

set_option maxHeartbeats 4000000 in
set_option maxRecDepth 100000 in
theorem law_rowStart {p : Program} {l : Launch} {e : Env} {s : State} {m : MethodId} {below : List Frame} {meth : Method} {c : Code} {b L : Nat} {xs : Nat → Int32} {D : va_G} {cI : ClassId} {o ar ac av vx py li o2 mo xx yy : Nat} (hL : L ≤ 2051) (C0 : lw_At p s m meth c b L xs) (hK : va_K D vwCl [(cI, .int)] s) {i : Nat} (hi : i + 4 ≤ L) (nx : lw_N p l e s m below meth c b D cI o ar ac av vx py li o2 mo xx yy (i + 4)) (a : st_A) (u : st_C) (v : st_M) (H : Heap) (locs : List Loc) (ls : Array Slot) : st_rc a u → st_rm a v → va_P D vwCl (st_wC cI o ar ac av vx py li a u) H → va_P D vwCl (st_wM cI o2 mo xx yy a v) H → va_D (fun q : Nat => s.heap.size ≤ q) ((st_wC cI o ar ac av vx py li a u) ++ (st_wM cI o2 mo xx yy a v)) → va_S (fun q : Nat => s.heap.size ≤ q) s.heap H locs → lv_has ls 4 [(0, .ref b), (1, .ref o), (2, .ref o2), (3, .int (nI i))] → W p l e room_1 s m #[Value.ref b] below meth c H locs 600000 7302250 (lw_Z below #[Value.ref b] s) (F0 m 226 ls []) := by
  intro hrc hrm hPC hPM hD hS hl
  obtain ⟨hx, hb, hr, hml, hown, hts0, hX, hbl, hlocks, hgv⟩ := id C0
  have hts := fun w h => hts0 w (wsL_law_in w h)
  have hA : ∀ q : Nat, s.heap.size ≤ q → (fun q : Nat => s.heap.size ≤ q) q := fun _ h => h
  have hbA : ¬ (fun q : Nat => s.heap.size ≤ q) b := Nat.not_le.mpr hbl
  refine lv_aload_n hx hb dL_law_226 rfl (lv_at hl 1 rfl) ?_
  refine lv_aload_n hx hb dL_law_227 rfl (lv_at hl 0 rfl) ?_
  refine lv_iload_n hx hb dL_law_228 rfl (lv_at hl 3 rfl) ?_
  refine lv_iconst (v := nI 1) hx hb dL_law_229 (by decide +kernel) ?_
  refine rv_iadd hx hb dL_law_230 ?_
  refine rs_sld hx hb hX hbl hbA hS (show i + 1 < L by omega) (by omega) dL_law_231 ?_
  refine rs_LR (As := [.int (xs (i + 1))]) (rest := []) ⟨hx, hb, hml, hown, hts⟩ hl.1 (c_rowStart l D cI o ar ac av vx py li a u hrc (xs (i + 1))) (cwV 1 hts gL_law_X1_rowStart rfl rfl rfl (by decide +kernel) ⟨Nat.le_of_ble_eq_true rfl, Nat.le_of_ble_eq_true rfl⟩) hK hPC rfl (st_hC cI o ar ac av vx py li a u) rfl rfl (Nat.le_of_ble_eq_true rfl) dL_law_232 (Nat.le_of_ble_eq_true rfl) (Nat.le_of_ble_eq_true rfl) (fun r1 h1 => ?_)
  refine lv_aload_n hx hb dL_law_235 rfl (lv_at hl 2 rfl) ?_
  refine lv_aload_n hx hb dL_law_236 rfl (lv_at hl 0 rfl) ?_
  refine lv_iload_n hx hb dL_law_237 rfl (lv_at hl 3 rfl) ?_
  refine lv_iconst (v := nI 1) hx hb dL_law_238 (by decide +kernel) ?_
  refine rv_iadd hx hb dL_law_239 ?_
  refine rs_sld hx hb hX hbl hbA hS (show i + 1 < L by omega) (by omega) dL_law_240 ?_
  refine rs_LR (As := [.int (xs (i + 1))]) (rest := [.int r1]) ⟨hx, hb, hml, hown, hts⟩ hl.1 (d_rowStart l D cI o2 mo xx yy a v hrm (xs (i + 1))) (cwV 1 hts gL_law_X2_rowStart rfl rfl rfl (by decide +kernel) ⟨Nat.le_of_ble_eq_true rfl, Nat.le_of_ble_eq_true rfl⟩) hK hPM rfl (st_hM cI o2 mo xx yy a v) rfl rfl (Nat.le_of_ble_eq_true rfl) dL_law_241 (Nat.le_of_ble_eq_true rfl) (Nat.le_of_ble_eq_true rfl) (fun r2 h2 => ?_)
  refine rv_iceq_t (tgt := 390) hx hb dL_law_244 (by decide) (h1.trans h2.symm) ?_
  refine lv_iinc (v := nI (i + 4)) (lv' := [(3, .int (nI (i + 4))), (0, .ref b), (1, .ref o), (2, .ref o2)]) hx hb dL_law_390 hl (k := 3) rfl (rv_inc4 _) (by decide) rfl (fun ls hl => ?_)
  refine lv_goto (tgt := 48) hx hb dL_law_393 (by decide) ?_
  exact nx a u v _ _ _ hrc hrm hPC hPM hD hS (lv_sub hl [1, 2, 3, 0] rfl)

set_option maxHeartbeats 4000000 in
set_option maxRecDepth 100000 in
theorem law_colAt {p : Program} {l : Launch} {e : Env} {s : State} {m : MethodId} {below : List Frame} {meth : Method} {c : Code} {b L : Nat} {xs : Nat → Int32} {D : va_G} {cI : ClassId} {o ar ac av vx py li o2 mo xx yy : Nat} (hL : L ≤ 2051) (C0 : lw_At p s m meth c b L xs) (hK : va_K D vwCl [(cI, .int)] s) {i : Nat} (hi : i + 4 ≤ L) (nx : lw_N p l e s m below meth c b D cI o ar ac av vx py li o2 mo xx yy (i + 4)) (a : st_A) (u : st_C) (v : st_M) (H : Heap) (locs : List Loc) (ls : Array Slot) : st_rc a u → st_rm a v → va_P D vwCl (st_wC cI o ar ac av vx py li a u) H → va_P D vwCl (st_wM cI o2 mo xx yy a v) H → va_D (fun q : Nat => s.heap.size ≤ q) ((st_wC cI o ar ac av vx py li a u) ++ (st_wM cI o2 mo xx yy a v)) → va_S (fun q : Nat => s.heap.size ≤ q) s.heap H locs → lv_has ls 4 [(0, .ref b), (1, .ref o), (2, .ref o2), (3, .int (nI i))] → W p l e room_1 s m #[Value.ref b] below meth c H locs 600000 7302250 (lw_Z below #[Value.ref b] s) (F0 m 249 ls []) := by
  intro hrc hrm hPC hPM hD hS hl
  obtain ⟨hx, hb, hr, hml, hown, hts0, hX, hbl, hlocks, hgv⟩ := id C0
  have hts := fun w h => hts0 w (wsL_law_in w h)
  have hA : ∀ q : Nat, s.heap.size ≤ q → (fun q : Nat => s.heap.size ≤ q) q := fun _ h => h
  have hbA : ¬ (fun q : Nat => s.heap.size ≤ q) b := Nat.not_le.mpr hbl
  refine lv_aload_n hx hb dL_law_249 rfl (lv_at hl 1 rfl) ?_
  refine lv_aload_n hx hb dL_law_250 rfl (lv_at hl 0 rfl) ?_
  refine lv_iload_n hx hb dL_law_251 rfl (lv_at hl 3 rfl) ?_
  refine lv_iconst (v := nI 1) hx hb dL_law_252 (by decide +kernel) ?_
  refine rv_iadd hx hb dL_law_253 ?_
  refine rs_sld hx hb hX hbl hbA hS (show i + 1 < L by omega) (by omega) dL_law_254 ?_
  refine rs_LR (As := [.int (xs (i + 1))]) (rest := []) ⟨hx, hb, hml, hown, hts⟩ hl.1 (c_colAt l D cI o ar ac av vx py li a u hrc (xs (i + 1))) (cwV 1 hts gL_law_X1_colAt rfl rfl rfl (by decide +kernel) ⟨Nat.le_of_ble_eq_true rfl, Nat.le_of_ble_eq_true rfl⟩) hK hPC rfl (st_hC cI o ar ac av vx py li a u) rfl rfl (Nat.le_of_ble_eq_true rfl) dL_law_255 (Nat.le_of_ble_eq_true rfl) (Nat.le_of_ble_eq_true rfl) (fun r1 h1 => ?_)
  refine lv_aload_n hx hb dL_law_258 rfl (lv_at hl 2 rfl) ?_
  refine lv_aload_n hx hb dL_law_259 rfl (lv_at hl 0 rfl) ?_
  refine lv_iload_n hx hb dL_law_260 rfl (lv_at hl 3 rfl) ?_
  refine lv_iconst (v := nI 1) hx hb dL_law_261 (by decide +kernel) ?_
  refine rv_iadd hx hb dL_law_262 ?_
  refine rs_sld hx hb hX hbl hbA hS (show i + 1 < L by omega) (by omega) dL_law_263 ?_
  refine rs_LR (As := [.int (xs (i + 1))]) (rest := [.int r1]) ⟨hx, hb, hml, hown, hts⟩ hl.1 (d_colAt l D cI o2 mo xx yy a v hrm (xs (i + 1))) (cwV 1 hts gL_law_X2_colAt rfl rfl rfl (by decide +kernel) ⟨Nat.le_of_ble_eq_true rfl, Nat.le_of_ble_eq_true rfl⟩) hK hPM rfl (st_hM cI o2 mo xx yy a v) rfl rfl (Nat.le_of_ble_eq_true rfl) dL_law_264 (Nat.le_of_ble_eq_true rfl) (Nat.le_of_ble_eq_true rfl) (fun r2 h2 => ?_)
  refine rv_iceq_t (tgt := 390) hx hb dL_law_267 (by decide) (an_colAt_one (st_b60 hrc).1 (st_b60 hrc).2 h1 h2) ?_
  refine lv_iinc (v := nI (i + 4)) (lv' := [(3, .int (nI (i + 4))), (0, .ref b), (1, .ref o), (2, .ref o2)]) hx hb dL_law_390 hl (k := 3) rfl (rv_inc4 _) (by decide) rfl (fun ls hl => ?_)
  refine lv_goto (tgt := 48) hx hb dL_law_393 (by decide) ?_
  exact nx a u v _ _ _ hrc hrm hPC hPM hD hS (lv_sub hl [1, 2, 3, 0] rfl)

set_option maxHeartbeats 4000000 in
set_option maxRecDepth 100000 in
theorem law_setX {p : Program} {l : Launch} {e : Env} {s : State} {m : MethodId} {below : List Frame} {meth : Method} {c : Code} {b L : Nat} {xs : Nat → Int32} {D : va_G} {cI : ClassId} {o ar ac av vx py li o2 mo xx yy : Nat} (hL : L ≤ 2051) (C0 : lw_At p s m meth c b L xs) (hK : va_K D vwCl [(cI, .int)] s) {i : Nat} (hi : i + 4 ≤ L) (nx : lw_N p l e s m below meth c b D cI o ar ac av vx py li o2 mo xx yy (i + 4)) (a : st_A) (u : st_C) (v : st_M) (H : Heap) (locs : List Loc) (ls : Array Slot) : st_rc a u → st_rm a v → va_P D vwCl (st_wC cI o ar ac av vx py li a u) H → va_P D vwCl (st_wM cI o2 mo xx yy a v) H → va_D (fun q : Nat => s.heap.size ≤ q) ((st_wC cI o ar ac av vx py li a u) ++ (st_wM cI o2 mo xx yy a v)) → va_S (fun q : Nat => s.heap.size ≤ q) s.heap H locs → lv_has ls 4 [(0, .ref b), (1, .ref o), (2, .ref o2), (3, .int (nI i))] → W p l e room_1 s m #[Value.ref b] below meth c H locs 600000 7302250 (lw_Z below #[Value.ref b] s) (F0 m 272 ls []) := by
  intro hrc hrm hPC hPM hD hS hl
  obtain ⟨hx, hb, hr, hml, hown, hts0, hX, hbl, hlocks, hgv⟩ := id C0
  have hts := fun w h => hts0 w (wsL_law_in w h)
  have hA : ∀ q : Nat, s.heap.size ≤ q → (fun q : Nat => s.heap.size ≤ q) q := fun _ h => h
  have hbA : ¬ (fun q : Nat => s.heap.size ≤ q) b := Nat.not_le.mpr hbl
  refine lv_aload_n hx hb dL_law_272 rfl (lv_at hl 1 rfl) ?_
  refine lv_aload_n hx hb dL_law_273 rfl (lv_at hl 0 rfl) ?_
  refine lv_iload_n hx hb dL_law_274 rfl (lv_at hl 3 rfl) ?_
  refine lv_iconst (v := nI 1) hx hb dL_law_275 (by decide +kernel) ?_
  refine rv_iadd hx hb dL_law_276 ?_
  refine rs_sld hx hb hX hbl hbA hS (show i + 1 < L by omega) (by omega) dL_law_277 ?_
  refine lv_aload_n hx hb dL_law_278 rfl (lv_at hl 0 rfl) ?_
  refine lv_iload_n hx hb dL_law_279 rfl (lv_at hl 3 rfl) ?_
  refine lv_iconst (v := nI 2) hx hb dL_law_280 (by decide +kernel) ?_
  refine rv_iadd hx hb dL_law_281 ?_
  refine rs_sld hx hb hX hbl hbA hS (show i + 2 < L by omega) (by omega) dL_law_282 ?_
  refine rs_LI (As := [.int (xs (i + 1)), .int (xs (i + 2))]) (rest := []) ⟨hx, hb, hml, hown, hts⟩ hl.1 (c_setX l D cI o ar ac av vx py li a u hrc (xs (i + 1)) (xs (i + 2))) (cwV 2 hts gL_law_X1_setX rfl rfl rfl (by decide +kernel) ⟨Nat.le_of_ble_eq_true rfl, Nat.le_of_ble_eq_true rfl⟩) hK hPC hPM hD hS hA rfl (st_hC cI o ar ac av vx py li a u) rfl rfl (Nat.le_of_ble_eq_true rfl) dL_law_283 (Nat.le_of_ble_eq_true rfl) (Nat.le_of_ble_eq_true rfl) (fun r1 x1 H locs h1 hPC hPM hD hS => ?_)
  obtain ⟨a1, u1⟩ := x1
  obtain ⟨h1, ea, hrc1⟩ := h1
  have ea : a1 = up_setX a (xs (i + 1)) (xs (i + 2)) := ea
  subst ea
  have hPC : va_P D vwCl (st_wC cI o ar ac av vx py li (up_setX a (xs (i + 1)) (xs (i + 2))) u1) H := hPC
  have hD : va_D (fun q : Nat => s.heap.size ≤ q) ((st_wC cI o ar ac av vx py li (up_setX a (xs (i + 1)) (xs (i + 2))) u1) ++ (st_wM cI o2 mo xx yy a v)) := hD
  refine lv_aload_n hx hb dL_law_286 rfl (lv_at hl 2 rfl) ?_
  refine lv_aload_n hx hb dL_law_287 rfl (lv_at hl 0 rfl) ?_
  refine lv_iload_n hx hb dL_law_288 rfl (lv_at hl 3 rfl) ?_
  refine lv_iconst (v := nI 1) hx hb dL_law_289 (by decide +kernel) ?_
  refine rv_iadd hx hb dL_law_290 ?_
  refine rs_sld hx hb hX hbl hbA hS (show i + 1 < L by omega) (by omega) dL_law_291 ?_
  refine lv_aload_n hx hb dL_law_292 rfl (lv_at hl 0 rfl) ?_
  refine lv_iload_n hx hb dL_law_293 rfl (lv_at hl 3 rfl) ?_
  refine lv_iconst (v := nI 2) hx hb dL_law_294 (by decide +kernel) ?_
  refine rv_iadd hx hb dL_law_295 ?_
  refine rs_sld hx hb hX hbl hbA hS (show i + 2 < L by omega) (by omega) dL_law_296 ?_
  refine rs_LI (As := [.int (xs (i + 1)), .int (xs (i + 2))]) (rest := [.int r1]) ⟨hx, hb, hml, hown, hts⟩ hl.1 (d_setX l D cI o2 mo xx yy a v hrm (xs (i + 1)) (xs (i + 2))) (cwV 2 hts gL_law_X2_setX rfl rfl rfl (by decide +kernel) ⟨Nat.le_of_ble_eq_true rfl, Nat.le_of_ble_eq_true rfl⟩) hK hPM hPC (rs_swap hD) hS hA rfl (st_hM cI o2 mo xx yy a v) rfl rfl (Nat.le_of_ble_eq_true rfl) dL_law_297 (Nat.le_of_ble_eq_true rfl) (Nat.le_of_ble_eq_true rfl) (fun r2 x2 H locs h2 hPM hPC hD hS => ?_)
  obtain ⟨a2, v1⟩ := x2
  obtain ⟨h2, ea, hrm1⟩ := h2
  have ea : a2 = up_setX a (xs (i + 1)) (xs (i + 2)) := ea
  subst ea
  have hPM : va_P D vwCl (st_wM cI o2 mo xx yy (up_setX a (xs (i + 1)) (xs (i + 2))) v1) H := hPM
  have hD : va_D (fun q : Nat => s.heap.size ≤ q) ((st_wC cI o ar ac av vx py li (up_setX a (xs (i + 1)) (xs (i + 2))) u1) ++ (st_wM cI o2 mo xx yy (up_setX a (xs (i + 1)) (xs (i + 2))) v1)) := rs_swap hD
  refine rv_iceq_t (tgt := 390) hx hb dL_law_300 (by decide) (h1.trans h2.symm) ?_
  refine lv_iinc (v := nI (i + 4)) (lv' := [(3, .int (nI (i + 4))), (0, .ref b), (1, .ref o), (2, .ref o2)]) hx hb dL_law_390 hl (k := 3) rfl (rv_inc4 _) (by decide) rfl (fun ls hl => ?_)
  refine lv_goto (tgt := 48) hx hb dL_law_393 (by decide) ?_
  exact nx (up_setX a (xs (i + 1)) (xs (i + 2))) u1 v1 _ _ _ hrc1 hrm1 hPC hPM hD hS (lv_sub hl [1, 2, 3, 0] rfl)

set_option maxHeartbeats 4000000 in
set_option maxRecDepth 100000 in
theorem law_multiplyVector {p : Program} {l : Launch} {e : Env} {s : State} {m : MethodId} {below : List Frame} {meth : Method} {c : Code} {b L : Nat} {xs : Nat → Int32} {D : va_G} {cI : ClassId} {o ar ac av vx py li o2 mo xx yy : Nat} (hL : L ≤ 2051) (C0 : lw_At p s m meth c b L xs) (hK : va_K D vwCl [(cI, .int)] s) {i : Nat} (hi : i + 4 ≤ L) (nx : lw_N p l e s m below meth c b D cI o ar ac av vx py li o2 mo xx yy (i + 4)) (a : st_A) (u : st_C) (v : st_M) (H : Heap) (locs : List Loc) (ls : Array Slot) : st_rc a u → st_rm a v → va_P D vwCl (st_wC cI o ar ac av vx py li a u) H → va_P D vwCl (st_wM cI o2 mo xx yy a v) H → va_D (fun q : Nat => s.heap.size ≤ q) ((st_wC cI o ar ac av vx py li a u) ++ (st_wM cI o2 mo xx yy a v)) → va_S (fun q : Nat => s.heap.size ≤ q) s.heap H locs → lv_has ls 4 [(0, .ref b), (1, .ref o), (2, .ref o2), (3, .int (nI i))] → W p l e room_1 s m #[Value.ref b] below meth c H locs 600000 7302250 (lw_Z below #[Value.ref b] s) (F0 m 305 ls []) := by
  intro hrc hrm hPC hPM hD hS hl
  obtain ⟨hx, hb, hr, hml, hown, hts0, hX, hbl, hlocks, hgv⟩ := id C0
  have hts := fun w h => hts0 w (wsL_law_in w h)
  have hA : ∀ q : Nat, s.heap.size ≤ q → (fun q : Nat => s.heap.size ≤ q) q := fun _ h => h
  have hbA : ¬ (fun q : Nat => s.heap.size ≤ q) b := Nat.not_le.mpr hbl
  refine lv_aload_n hx hb dL_law_305 rfl (lv_at hl 1 rfl) ?_
  refine rs_LI (As := []) (rest := []) ⟨hx, hb, hml, hown, hts⟩ hl.1 (c_multiplyVector l D cI o ar ac av vx py li a u hrc) (cwV 0 hts gL_law_X1_multiplyVector rfl rfl rfl (by decide +kernel) ⟨Nat.le_of_ble_eq_true rfl, Nat.le_of_ble_eq_true rfl⟩) hK hPC hPM hD hS hA rfl (st_hC cI o ar ac av vx py li a u) rfl rfl (Nat.le_of_ble_eq_true rfl) dL_law_306 (Nat.le_of_ble_eq_true rfl) (Nat.le_of_ble_eq_true rfl) (fun r1 x1 H locs h1 hPC hPM hD hS => ?_)
  obtain ⟨a1, u1⟩ := x1
  obtain ⟨h1, ea, hrc1⟩ := h1
  have ea : a1 = up_mul a := ea
  subst ea
  have hPC : va_P D vwCl (st_wC cI o ar ac av vx py li (up_mul a) u1) H := hPC
  have hD : va_D (fun q : Nat => s.heap.size ≤ q) ((st_wC cI o ar ac av vx py li (up_mul a) u1) ++ (st_wM cI o2 mo xx yy a v)) := hD
  refine lv_aload_n hx hb dL_law_309 rfl (lv_at hl 2 rfl) ?_
  refine rs_LI (As := []) (rest := [.int r1]) ⟨hx, hb, hml, hown, hts⟩ hl.1 (d_multiplyVector l D cI o2 mo xx yy a v hrm) (cwV 0 hts gL_law_X2_multiplyVector rfl rfl rfl (by decide +kernel) ⟨Nat.le_of_ble_eq_true rfl, Nat.le_of_ble_eq_true rfl⟩) hK hPM hPC (rs_swap hD) hS hA rfl (st_hM cI o2 mo xx yy a v) rfl rfl (Nat.le_of_ble_eq_true rfl) dL_law_310 (Nat.le_of_ble_eq_true rfl) (Nat.le_of_ble_eq_true rfl) (fun r2 x2 H locs h2 hPM hPC hD hS => ?_)
  obtain ⟨a2, v1⟩ := x2
  obtain ⟨h2, ea, hrm1⟩ := h2
  have ea : a2 = up_mul a := ea
  subst ea
  have hPM : va_P D vwCl (st_wM cI o2 mo xx yy (up_mul a) v1) H := hPM
  have hD : va_D (fun q : Nat => s.heap.size ≤ q) ((st_wC cI o ar ac av vx py li (up_mul a) u1) ++ (st_wM cI o2 mo xx yy (up_mul a) v1)) := rs_swap hD
  refine rv_iceq_t (tgt := 390) hx hb dL_law_313 (by decide) (h1.trans h2.symm) ?_
  refine lv_iinc (v := nI (i + 4)) (lv' := [(3, .int (nI (i + 4))), (0, .ref b), (1, .ref o), (2, .ref o2)]) hx hb dL_law_390 hl (k := 3) rfl (rv_inc4 _) (by decide) rfl (fun ls hl => ?_)
  refine lv_goto (tgt := 48) hx hb dL_law_393 (by decide) ?_
  exact nx (up_mul a) u1 v1 _ _ _ hrc1 hrm1 hPC hPM hD hS (lv_sub hl [1, 2, 3, 0] rfl)

set_option maxHeartbeats 4000000 in
set_option maxRecDepth 100000 in
theorem law_y {p : Program} {l : Launch} {e : Env} {s : State} {m : MethodId} {below : List Frame} {meth : Method} {c : Code} {b L : Nat} {xs : Nat → Int32} {D : va_G} {cI : ClassId} {o ar ac av vx py li o2 mo xx yy : Nat} (hL : L ≤ 2051) (C0 : lw_At p s m meth c b L xs) (hK : va_K D vwCl [(cI, .int)] s) {i : Nat} (hi : i + 4 ≤ L) (nx : lw_N p l e s m below meth c b D cI o ar ac av vx py li o2 mo xx yy (i + 4)) (a : st_A) (u : st_C) (v : st_M) (H : Heap) (locs : List Loc) (ls : Array Slot) : st_rc a u → st_rm a v → va_P D vwCl (st_wC cI o ar ac av vx py li a u) H → va_P D vwCl (st_wM cI o2 mo xx yy a v) H → va_D (fun q : Nat => s.heap.size ≤ q) ((st_wC cI o ar ac av vx py li a u) ++ (st_wM cI o2 mo xx yy a v)) → va_S (fun q : Nat => s.heap.size ≤ q) s.heap H locs → lv_has ls 4 [(0, .ref b), (1, .ref o), (2, .ref o2), (3, .int (nI i))] → W p l e room_1 s m #[Value.ref b] below meth c H locs 600000 7302250 (lw_Z below #[Value.ref b] s) (F0 m 318 ls []) := by
  intro hrc hrm hPC hPM hD hS hl
  obtain ⟨hx, hb, hr, hml, hown, hts0, hX, hbl, hlocks, hgv⟩ := id C0
  have hts := fun w h => hts0 w (wsL_law_in w h)
  have hA : ∀ q : Nat, s.heap.size ≤ q → (fun q : Nat => s.heap.size ≤ q) q := fun _ h => h
  have hbA : ¬ (fun q : Nat => s.heap.size ≤ q) b := Nat.not_le.mpr hbl
  refine lv_aload_n hx hb dL_law_318 rfl (lv_at hl 1 rfl) ?_
  refine lv_aload_n hx hb dL_law_319 rfl (lv_at hl 0 rfl) ?_
  refine lv_iload_n hx hb dL_law_320 rfl (lv_at hl 3 rfl) ?_
  refine lv_iconst (v := nI 1) hx hb dL_law_321 (by decide +kernel) ?_
  refine rv_iadd hx hb dL_law_322 ?_
  refine rs_sld hx hb hX hbl hbA hS (show i + 1 < L by omega) (by omega) dL_law_323 ?_
  refine rs_LR (As := [.int (xs (i + 1))]) (rest := []) ⟨hx, hb, hml, hown, hts⟩ hl.1 (c_y l D cI o ar ac av vx py li a u hrc (xs (i + 1))) (cwV 1 hts gL_law_X1_y rfl rfl rfl (by decide +kernel) ⟨Nat.le_of_ble_eq_true rfl, Nat.le_of_ble_eq_true rfl⟩) hK hPC rfl (st_hC cI o ar ac av vx py li a u) rfl rfl (Nat.le_of_ble_eq_true rfl) dL_law_324 (Nat.le_of_ble_eq_true rfl) (Nat.le_of_ble_eq_true rfl) (fun r1 h1 => ?_)
  refine lv_aload_n hx hb dL_law_327 rfl (lv_at hl 2 rfl) ?_
  refine lv_aload_n hx hb dL_law_328 rfl (lv_at hl 0 rfl) ?_
  refine lv_iload_n hx hb dL_law_329 rfl (lv_at hl 3 rfl) ?_
  refine lv_iconst (v := nI 1) hx hb dL_law_330 (by decide +kernel) ?_
  refine rv_iadd hx hb dL_law_331 ?_
  refine rs_sld hx hb hX hbl hbA hS (show i + 1 < L by omega) (by omega) dL_law_332 ?_
  refine rs_LR (As := [.int (xs (i + 1))]) (rest := [.int r1]) ⟨hx, hb, hml, hown, hts⟩ hl.1 (d_y l D cI o2 mo xx yy a v hrm (xs (i + 1))) (cwV 1 hts gL_law_X2_y rfl rfl rfl (by decide +kernel) ⟨Nat.le_of_ble_eq_true rfl, Nat.le_of_ble_eq_true rfl⟩) hK hPM rfl (st_hM cI o2 mo xx yy a v) rfl rfl (Nat.le_of_ble_eq_true rfl) dL_law_333 (Nat.le_of_ble_eq_true rfl) (Nat.le_of_ble_eq_true rfl) (fun r2 h2 => ?_)
  refine rv_iceq_t (tgt := 390) hx hb dL_law_336 (by decide) (h1.trans h2.symm) ?_
  refine lv_iinc (v := nI (i + 4)) (lv' := [(3, .int (nI (i + 4))), (0, .ref b), (1, .ref o), (2, .ref o2)]) hx hb dL_law_390 hl (k := 3) rfl (rv_inc4 _) (by decide) rfl (fun ls hl => ?_)
  refine lv_goto (tgt := 48) hx hb dL_law_393 (by decide) ?_
  exact nx a u v _ _ _ hrc hrm hPC hPM hD hS (lv_sub hl [1, 2, 3, 0] rfl)

set_option maxHeartbeats 4000000 in
set_option maxRecDepth 100000 in
theorem law_transpose {p : Program} {l : Launch} {e : Env} {s : State} {m : MethodId} {below : List Frame} {meth : Method} {c : Code} {b L : Nat} {xs : Nat → Int32} {D : va_G} {cI : ClassId} {o ar ac av vx py li o2 mo xx yy : Nat} (hL : L ≤ 2051) (C0 : lw_At p s m meth c b L xs) (hK : va_K D vwCl [(cI, .int)] s) {i : Nat} (hi : i + 4 ≤ L) (nx : lw_N p l e s m below meth c b D cI o ar ac av vx py li o2 mo xx yy (i + 4)) (a : st_A) (u : st_C) (v : st_M) (H : Heap) (locs : List Loc) (ls : Array Slot) : st_rc a u → st_rm a v → va_P D vwCl (st_wC cI o ar ac av vx py li a u) H → va_P D vwCl (st_wM cI o2 mo xx yy a v) H → va_D (fun q : Nat => s.heap.size ≤ q) ((st_wC cI o ar ac av vx py li a u) ++ (st_wM cI o2 mo xx yy a v)) → va_S (fun q : Nat => s.heap.size ≤ q) s.heap H locs → lv_has ls 4 [(0, .ref b), (1, .ref o), (2, .ref o2), (3, .int (nI i))] → W p l e room_1 s m #[Value.ref b] below meth c H locs 600000 7302250 (lw_Z below #[Value.ref b] s) (F0 m 341 ls []) := by
  intro hrc hrm hPC hPM hD hS hl
  obtain ⟨hx, hb, hr, hml, hown, hts0, hX, hbl, hlocks, hgv⟩ := id C0
  have hts := fun w h => hts0 w (wsL_law_in w h)
  have hA : ∀ q : Nat, s.heap.size ≤ q → (fun q : Nat => s.heap.size ≤ q) q := fun _ h => h
  have hbA : ¬ (fun q : Nat => s.heap.size ≤ q) b := Nat.not_le.mpr hbl
  refine lv_aload_n hx hb dL_law_341 rfl (lv_at hl 1 rfl) ?_
  refine rs_LI (As := []) (rest := []) ⟨hx, hb, hml, hown, hts⟩ hl.1 (c_transpose l D cI o ar ac av vx py li a u hrc) (cwV 0 hts gL_law_X1_transpose rfl rfl rfl (by decide +kernel) ⟨Nat.le_of_ble_eq_true rfl, Nat.le_of_ble_eq_true rfl⟩) hK hPC hPM hD hS hA rfl (st_hC cI o ar ac av vx py li a u) rfl rfl (Nat.le_of_ble_eq_true rfl) dL_law_342 (Nat.le_of_ble_eq_true rfl) (Nat.le_of_ble_eq_true rfl) (fun r1 x1 H locs h1 hPC hPM hD hS => ?_)
  obtain ⟨a1, u1⟩ := x1
  obtain ⟨h1, ea, hrc1⟩ := h1
  have ea : a1 = up_turn a := ea
  subst ea
  have hPC : va_P D vwCl (st_wC cI o ar ac av vx py li (up_turn a) u1) H := hPC
  have hD : va_D (fun q : Nat => s.heap.size ≤ q) ((st_wC cI o ar ac av vx py li (up_turn a) u1) ++ (st_wM cI o2 mo xx yy a v)) := hD
  refine lv_aload_n hx hb dL_law_345 rfl (lv_at hl 2 rfl) ?_
  refine rs_LI (As := []) (rest := [.int r1]) ⟨hx, hb, hml, hown, hts⟩ hl.1 (d_transpose l D cI o2 mo xx yy a v hrm) (cwV 0 hts gL_law_X2_transpose rfl rfl rfl (by decide +kernel) ⟨Nat.le_of_ble_eq_true rfl, Nat.le_of_ble_eq_true rfl⟩) hK hPM hPC (rs_swap hD) hS hA rfl (st_hM cI o2 mo xx yy a v) rfl rfl (Nat.le_of_ble_eq_true rfl) dL_law_346 (Nat.le_of_ble_eq_true rfl) (Nat.le_of_ble_eq_true rfl) (fun r2 x2 H locs h2 hPM hPC hD hS => ?_)
  obtain ⟨a2, v1⟩ := x2
  obtain ⟨h2, ea, hrm1⟩ := h2
  have ea : a2 = up_turn a := ea
  subst ea
  have hPM : va_P D vwCl (st_wM cI o2 mo xx yy (up_turn a) v1) H := hPM
  have hD : va_D (fun q : Nat => s.heap.size ≤ q) ((st_wC cI o ar ac av vx py li (up_turn a) u1) ++ (st_wM cI o2 mo xx yy (up_turn a) v1)) := rs_swap hD
  refine rv_iceq_t (tgt := 390) hx hb dL_law_349 (by decide) (h1.trans h2.symm) ?_
  refine lv_iinc (v := nI (i + 4)) (lv' := [(3, .int (nI (i + 4))), (0, .ref b), (1, .ref o), (2, .ref o2)]) hx hb dL_law_390 hl (k := 3) rfl (rv_inc4 _) (by decide) rfl (fun ls hl => ?_)
  refine lv_goto (tgt := 48) hx hb dL_law_393 (by decide) ?_
  exact nx (up_turn a) u1 v1 _ _ _ hrc1 hrm1 hPC hPM hD hS (lv_sub hl [1, 2, 3, 0] rfl)

set_option maxHeartbeats 4000000 in
set_option maxRecDepth 100000 in
theorem law_square {p : Program} {l : Launch} {e : Env} {s : State} {m : MethodId} {below : List Frame} {meth : Method} {c : Code} {b L : Nat} {xs : Nat → Int32} {D : va_G} {cI : ClassId} {o ar ac av vx py li o2 mo xx yy : Nat} (hL : L ≤ 2051) (C0 : lw_At p s m meth c b L xs) (hK : va_K D vwCl [(cI, .int)] s) {i : Nat} (hi : i + 4 ≤ L) (nx : lw_N p l e s m below meth c b D cI o ar ac av vx py li o2 mo xx yy (i + 4)) (a : st_A) (u : st_C) (v : st_M) (H : Heap) (locs : List Loc) (ls : Array Slot) : st_rc a u → st_rm a v → va_P D vwCl (st_wC cI o ar ac av vx py li a u) H → va_P D vwCl (st_wM cI o2 mo xx yy a v) H → va_D (fun q : Nat => s.heap.size ≤ q) ((st_wC cI o ar ac av vx py li a u) ++ (st_wM cI o2 mo xx yy a v)) → va_S (fun q : Nat => s.heap.size ≤ q) s.heap H locs → lv_has ls 4 [(0, .ref b), (1, .ref o), (2, .ref o2), (3, .int (nI i))] → W p l e room_1 s m #[Value.ref b] below meth c H locs 600000 7302250 (lw_Z below #[Value.ref b] s) (F0 m 354 ls []) := by
  intro hrc hrm hPC hPM hD hS hl
  obtain ⟨hx, hb, hr, hml, hown, hts0, hX, hbl, hlocks, hgv⟩ := id C0
  have hts := fun w h => hts0 w (wsL_law_in w h)
  have hA : ∀ q : Nat, s.heap.size ≤ q → (fun q : Nat => s.heap.size ≤ q) q := fun _ h => h
  have hbA : ¬ (fun q : Nat => s.heap.size ≤ q) b := Nat.not_le.mpr hbl
  refine lv_aload_n hx hb dL_law_354 rfl (lv_at hl 1 rfl) ?_
  refine rs_LI (As := []) (rest := []) ⟨hx, hb, hml, hown, hts⟩ hl.1 (c_square l D cI o ar ac av vx py li a u hrc) (cwV 0 hts gL_law_X1_square rfl rfl rfl (by decide +kernel) ⟨Nat.le_of_ble_eq_true rfl, Nat.le_of_ble_eq_true rfl⟩) hK hPC hPM hD hS hA rfl (st_hC cI o ar ac av vx py li a u) rfl rfl (Nat.le_of_ble_eq_true rfl) dL_law_355 (Nat.le_of_ble_eq_true rfl) (Nat.le_of_ble_eq_true rfl) (fun r1 x1 H locs h1 hPC hPM hD hS => ?_)
  obtain ⟨a1, u1⟩ := x1
  obtain ⟨h1, ea, hrc1⟩ := h1
  have ea : a1 = up_square a := ea
  subst ea
  have hPC : va_P D vwCl (st_wC cI o ar ac av vx py li (up_square a) u1) H := hPC
  have hD : va_D (fun q : Nat => s.heap.size ≤ q) ((st_wC cI o ar ac av vx py li (up_square a) u1) ++ (st_wM cI o2 mo xx yy a v)) := hD
  refine lv_aload_n hx hb dL_law_358 rfl (lv_at hl 2 rfl) ?_
  refine rs_LI (As := []) (rest := [.int r1]) ⟨hx, hb, hml, hown, hts⟩ hl.1 (d_square l D cI o2 mo xx yy a v hrm) (cwV 0 hts gL_law_X2_square rfl rfl rfl (by decide +kernel) ⟨Nat.le_of_ble_eq_true rfl, Nat.le_of_ble_eq_true rfl⟩) hK hPM hPC (rs_swap hD) hS hA rfl (st_hM cI o2 mo xx yy a v) rfl rfl (Nat.le_of_ble_eq_true rfl) dL_law_359 (Nat.le_of_ble_eq_true rfl) (Nat.le_of_ble_eq_true rfl) (fun r2 x2 H locs h2 hPM hPC hD hS => ?_)
  obtain ⟨a2, v1⟩ := x2
  obtain ⟨h2, ea, hrm1⟩ := h2
  have ea : a2 = up_square a := ea
  subst ea
  have hPM : va_P D vwCl (st_wM cI o2 mo xx yy (up_square a) v1) H := hPM
  have hD : va_D (fun q : Nat => s.heap.size ≤ q) ((st_wC cI o ar ac av vx py li (up_square a) u1) ++ (st_wM cI o2 mo xx yy (up_square a) v1)) := rs_swap hD
  refine rv_iceq_t (tgt := 390) hx hb dL_law_362 (by decide) (h1.trans h2.symm) ?_
  refine lv_iinc (v := nI (i + 4)) (lv' := [(3, .int (nI (i + 4))), (0, .ref b), (1, .ref o), (2, .ref o2)]) hx hb dL_law_390 hl (k := 3) rfl (rv_inc4 _) (by decide) rfl (fun ls hl => ?_)
  refine lv_goto (tgt := 48) hx hb dL_law_393 (by decide) ?_
  exact nx (up_square a) u1 v1 _ _ _ hrc1 hrm1 hPC hPM hD hS (lv_sub hl [1, 2, 3, 0] rfl)

set_option maxHeartbeats 4000000 in
set_option maxRecDepth 100000 in
theorem law_count {p : Program} {l : Launch} {e : Env} {s : State} {m : MethodId} {below : List Frame} {meth : Method} {c : Code} {b L : Nat} {xs : Nat → Int32} {D : va_G} {cI : ClassId} {o ar ac av vx py li o2 mo xx yy : Nat} (hL : L ≤ 2051) (C0 : lw_At p s m meth c b L xs) (hK : va_K D vwCl [(cI, .int)] s) {i : Nat} (hi : i + 4 ≤ L) (nx : lw_N p l e s m below meth c b D cI o ar ac av vx py li o2 mo xx yy (i + 4)) (a : st_A) (u : st_C) (v : st_M) (H : Heap) (locs : List Loc) (ls : Array Slot) : st_rc a u → st_rm a v → va_P D vwCl (st_wC cI o ar ac av vx py li a u) H → va_P D vwCl (st_wM cI o2 mo xx yy a v) H → va_D (fun q : Nat => s.heap.size ≤ q) ((st_wC cI o ar ac av vx py li a u) ++ (st_wM cI o2 mo xx yy a v)) → va_S (fun q : Nat => s.heap.size ≤ q) s.heap H locs → lv_has ls 4 [(0, .ref b), (1, .ref o), (2, .ref o2), (3, .int (nI i))] → W p l e room_1 s m #[Value.ref b] below meth c H locs 600000 7302250 (lw_Z below #[Value.ref b] s) (F0 m 367 ls []) := by
  intro hrc hrm hPC hPM hD hS hl
  obtain ⟨hx, hb, hr, hml, hown, hts0, hX, hbl, hlocks, hgv⟩ := id C0
  have hts := fun w h => hts0 w (wsL_law_in w h)
  have hA : ∀ q : Nat, s.heap.size ≤ q → (fun q : Nat => s.heap.size ≤ q) q := fun _ h => h
  have hbA : ¬ (fun q : Nat => s.heap.size ≤ q) b := Nat.not_le.mpr hbl
  refine lv_aload_n hx hb dL_law_367 rfl (lv_at hl 1 rfl) ?_
  refine lv_aload_n hx hb dL_law_368 rfl (lv_at hl 0 rfl) ?_
  refine lv_iload_n hx hb dL_law_369 rfl (lv_at hl 3 rfl) ?_
  refine lv_iconst (v := nI 1) hx hb dL_law_370 (by decide +kernel) ?_
  refine rv_iadd hx hb dL_law_371 ?_
  refine rs_sld hx hb hX hbl hbA hS (show i + 1 < L by omega) (by omega) dL_law_372 ?_
  refine rs_LR (As := [.int (xs (i + 1))]) (rest := []) ⟨hx, hb, hml, hown, hts⟩ hl.1 (c_count l D cI o ar ac av vx py li a u hrc (xs (i + 1))) (cwV 1 hts gL_law_X1_count rfl rfl rfl (by decide +kernel) ⟨Nat.le_of_ble_eq_true rfl, Nat.le_of_ble_eq_true rfl⟩) hK hPC rfl (st_hC cI o ar ac av vx py li a u) rfl rfl (Nat.le_of_ble_eq_true rfl) dL_law_373 (Nat.le_of_ble_eq_true rfl) (Nat.le_of_ble_eq_true rfl) (fun r1 h1 => ?_)
  refine lv_aload_n hx hb dL_law_376 rfl (lv_at hl 2 rfl) ?_
  refine lv_aload_n hx hb dL_law_377 rfl (lv_at hl 0 rfl) ?_
  refine lv_iload_n hx hb dL_law_378 rfl (lv_at hl 3 rfl) ?_
  refine lv_iconst (v := nI 1) hx hb dL_law_379 (by decide +kernel) ?_
  refine rv_iadd hx hb dL_law_380 ?_
  refine rs_sld hx hb hX hbl hbA hS (show i + 1 < L by omega) (by omega) dL_law_381 ?_
  refine rs_LR (As := [.int (xs (i + 1))]) (rest := [.int r1]) ⟨hx, hb, hml, hown, hts⟩ hl.1 (d_count l D cI o2 mo xx yy a v hrm (xs (i + 1))) (cwV 1 hts gL_law_X2_count rfl rfl rfl (by decide +kernel) ⟨Nat.le_of_ble_eq_true rfl, Nat.le_of_ble_eq_true rfl⟩) hK hPM rfl (st_hM cI o2 mo xx yy a v) rfl rfl (Nat.le_of_ble_eq_true rfl) dL_law_382 (Nat.le_of_ble_eq_true rfl) (Nat.le_of_ble_eq_true rfl) (fun r2 h2 => ?_)
  refine rv_iceq_t (tgt := 390) hx hb dL_law_385 (by decide) (h1.trans h2.symm) ?_
  refine lv_iinc (v := nI (i + 4)) (lv' := [(3, .int (nI (i + 4))), (0, .ref b), (1, .ref o), (2, .ref o2)]) hx hb dL_law_390 hl (k := 3) rfl (rv_inc4 _) (by decide) rfl (fun ls hl => ?_)
  refine lv_goto (tgt := 48) hx hb dL_law_393 (by decide) ?_
  exact nx a u v _ _ _ hrc hrm hPC hPM hD hS (lv_sub hl [1, 2, 3, 0] rfl)
