set_option maxHeartbeats 8000000 in
set_option maxRecDepth 100000 in
theorem law_open {p : Program} {l : Launch} {e : Env} {s : State} {m : MethodId} {below : List Frame} {meth : Method} {c_ : Code} {b L : Nat} {xs : Nat → Int32} {G : va_G} {k : Nat → ClassId} {h : Nat} {a c : Nat → Nat} (F : LF p l s m meth c_ b L xs G k h a c) {σ : SX} (hJ : yJs σ) {z9 j A B v9 w9 : Nat} {cc nn isW kd : Int32} {bf : Int64} (hj : j < 58) (hd : σ.2.2.2.2.2 ≤ 7 * j) (hw8 : w9 < 5000000) (hbf : ¬ isW = 0 → f_sum σ = bf) (kt : KT p l e s m below meth c_ b G k h a c z9 isW bf j A B) {H : Heap} {locs : List Loc} {cells slots : Nat} {ls : Array Slot} (hP : va_P G vwCl (WS k h a c σ) H) (hS : yO s H locs) (hb1 : cells + (A + 100) ≤ 756716) (hb2 : slots + (B + 600) ≤ 6824554) (hl : lv_has ls 16 [(0, .ref b), (1, .ref h), (2, .int (nI z9)), (3, .int (nI j)), (4, .int (nI v9)), (5, .int (nI w9)), (6, .int cc), (7, .int (nI σ.2.2.2.2.1)), (8, .int nn), (9, .int isW), (10, .long bf), (12, .int 0), (13, .int kd)]) : W p l e room_1 s m #[Value.ref b] below meth c_ H locs cells slots (lw_Z below #[Value.ref b] s) (F0 m 142 ls []) := by
  obtain ⟨hx, hb, hr, hml, hown, hts, hX, hbl, hL, hK, hV, hl9, hlocks, hDA⟩ := F
  have hn0 : σ.2.1 ≤ 8 := J_n0 hJ
  have hn1 : σ.2.2.2.2.1 ≤ 80 := J_n1 hJ
  refine lv_aload_n hx hb dL_law_142 rfl (lv_at hl 1 rfl) ?_
  refine lv_iconst (v := 1) hx hb dL_law_143 (by decide) ?_
  refine lv_iload hx hb dL_law_144 (lv_at hl 5 rfl) ?_
  refine lv_sipush (v := 300) hx hb dL_law_146 (by decide) ?_
  refine lv_irem hx hb dL_law_149 (by decide) ?_
  refine y_top (irem_eq_mod _ _) ?_
  refine lv_iadd hx hb dL_law_150 ?_
  refine lv_iload hx hb dL_law_151 (lv_at hl 5 rfl) ?_
  refine lv_sipush (v := 300) hx hb dL_law_153 (by decide) ?_
  refine lv_idiv hx hb dL_law_156 (by decide) ?_
  refine lv_bipush (v := 20) hx hb dL_law_157 (by decide) ?_
  refine lv_irem hx hb dL_law_159 (by decide) ?_
  refine y_top (irem_eq_mod _ _) ?_
  refine y_lrw (w := WS k h a c σ) (w' := WS k h a c (g_open (1 + ((nI w9) % 300)) (((nI w9) / 300) % 20) σ)) (vx_runSW (As := [.ref h, .int (1 + ((nI w9) % 300)), .int (((nI w9) / 300) % 20)]) (rest := []) ⟨hx, hb, hml, hown, hts⟩ (c_open l hl9 G k h a c σ H.size (1 + ((nI w9) % 300)) (((nI w9) / 300) % 20) ((hDA σ).weaken (fun _ _ _ _ => trivial)) hJ.1) (vx_cwSW 3 hts gL_law_L_open rfl rfl rfl (by decide +kernel) ⟨Nat.le_of_ble_eq_true rfl, Nat.le_of_ble_eq_true rfl⟩) (yL_pre hS hV hP hK) rfl rfl hl.1 rfl (lv_room (Nat.le_of_ble_eq_true rfl)) dL_law_160 ⟨show cells + 1 ≤ 756716 by omega, show slots + 6 ≤ 6824554 by omega⟩) (hDA σ) hS (fun r H1 locs1 hr9 hP1 hS1 => ?_)
  have hP := hP1
  have hS := hS1
  clear hP1 hS1
  have hr9 : r = f_open (1 + ((nI w9) % 300)) (((nI w9) / 300) % 20) σ := hr9
  subst hr9
  refine lv_istore (lv' := [(12, .int (f_open (1 + ((nI w9) % 300)) (((nI w9) / 300) % 20) σ)), (0, .ref b), (1, .ref h), (2, .int (nI z9)), (3, .int (nI j)), (4, .int (nI v9)), (5, .int (nI w9)), (6, .int cc), (7, .int (nI σ.2.2.2.2.1)), (8, .int nn), (9, .int isW), (10, .long bf), (13, .int kd)]) hx hb dL_law_163 hl (by decide) rfl (fun ls hl => ?_)
  refine lv_goto (tgt := 723) hx hb dL_law_165 (by decide) ?_
  have q1 : cells + 1 + A ≤ 756716 := by omega
  have q2 : slots + 6 + B ≤ 6824554 := by omega
  exact kt _ _ _ _ _ _ _ (J_open hJ _ _) (show σ.2.2.2.2.2 ≤ 7 * (j + 1) by omega) (fun h9 h8 => (congrArg f_sum (lt_open hJ h9)).trans (hbf h8)) hP hS q1 q2 (lv_sub hl [1, 2, 3, 4, 10, 11, 0] rfl)

set_option maxHeartbeats 8000000 in
set_option maxRecDepth 100000 in
theorem law_pause {p : Program} {l : Launch} {e : Env} {s : State} {m : MethodId} {below : List Frame} {meth : Method} {c_ : Code} {b L : Nat} {xs : Nat → Int32} {G : va_G} {k : Nat → ClassId} {h : Nat} {a c : Nat → Nat} (F : LF p l s m meth c_ b L xs G k h a c) {σ : SX} (hJ : yJs σ) {z9 j A B v9 w9 : Nat} {cc nn isW kd : Int32} {bf : Int64} (hj : j < 58) (hd : σ.2.2.2.2.2 ≤ 7 * j) (hw8 : w9 < 5000000) (hbf : ¬ isW = 0 → f_sum σ = bf) (kt : KT p l e s m below meth c_ b G k h a c z9 isW bf j A B) {H : Heap} {locs : List Loc} {cells slots : Nat} {ls : Array Slot} (hP : va_P G vwCl (WS k h a c σ) H) (hS : yO s H locs) (hb1 : cells + (A + 100) ≤ 756716) (hb2 : slots + (B + 600) ≤ 6824554) (hl : lv_has ls 16 [(0, .ref b), (1, .ref h), (2, .int (nI z9)), (3, .int (nI j)), (4, .int (nI v9)), (5, .int (nI w9)), (6, .int cc), (7, .int (nI σ.2.2.2.2.1)), (8, .int nn), (9, .int isW), (10, .long bf), (12, .int 0), (13, .int kd)]) : W p l e room_1 s m #[Value.ref b] below meth c_ H locs cells slots (lw_Z below #[Value.ref b] s) (F0 m 174 ls []) := by
  obtain ⟨hx, hb, hr, hml, hown, hts, hX, hbl, hL, hK, hV, hl9, hlocks, hDA⟩ := F
  have hn0 : σ.2.1 ≤ 8 := J_n0 hJ
  have hn1 : σ.2.2.2.2.1 ≤ 80 := J_n1 hJ
  refine lv_aload_n hx hb dL_law_174 rfl (lv_at hl 1 rfl) ?_
  refine lv_iload hx hb dL_law_175 (lv_at hl 6 rfl) ?_
  refine lv_iconst (v := 1) hx hb dL_law_177 (by decide) ?_
  refine lv_iload hx hb dL_law_178 (lv_at hl 5 rfl) ?_
  refine lv_bipush (v := 8) hx hb dL_law_180 (by decide) ?_
  refine lv_idiv hx hb dL_law_182 (by decide) ?_
  refine lv_bipush (v := 20) hx hb dL_law_183 (by decide) ?_
  refine lv_irem hx hb dL_law_185 (by decide) ?_
  refine y_top (irem_eq_mod _ _) ?_
  refine lv_iadd hx hb dL_law_186 ?_
  refine y_lrw (w := WS k h a c σ) (w' := WS k h a c (g_pause cc (1 + (((nI w9) / 8) % 20)) σ)) (vx_runSW (As := [.ref h, .int cc, .int (1 + (((nI w9) / 8) % 20))]) (rest := []) ⟨hx, hb, hml, hown, hts⟩ (c_pause l hl9 G k h a c σ H.size cc (1 + (((nI w9) / 8) % 20)) ((hDA σ).weaken (fun _ _ _ _ => trivial)) hJ.1) (vx_cwSW 3 hts gL_law_L_pause rfl rfl rfl (by decide +kernel) ⟨Nat.le_of_ble_eq_true rfl, Nat.le_of_ble_eq_true rfl⟩) (yL_pre hS hV hP hK) rfl rfl hl.1 rfl (lv_room (Nat.le_of_ble_eq_true rfl)) dL_law_187 ⟨show cells + 3 ≤ 756716 by omega, show slots + 18 ≤ 6824554 by omega⟩) (hDA σ) hS (fun r H1 locs1 hr9 hP1 hS1 => ?_)
  have hP := hP1
  have hS := hS1
  clear hP1 hS1
  have hr9 : r = f_pause cc (1 + (((nI w9) / 8) % 20)) σ := hr9
  subst hr9
  refine lv_istore (lv' := [(12, .int (f_pause cc (1 + (((nI w9) / 8) % 20)) σ)), (0, .ref b), (1, .ref h), (2, .int (nI z9)), (3, .int (nI j)), (4, .int (nI v9)), (5, .int (nI w9)), (6, .int cc), (7, .int (nI σ.2.2.2.2.1)), (8, .int nn), (9, .int isW), (10, .long bf), (13, .int kd)]) hx hb dL_law_190 hl (by decide) rfl (fun ls hl => ?_)
  refine lv_goto (tgt := 723) hx hb dL_law_192 (by decide) ?_
  have q1 : cells + 3 + A ≤ 756716 := by omega
  have q2 : slots + 18 + B ≤ 6824554 := by omega
  exact kt _ _ _ _ _ _ _ (J_pause hJ _ _) (show σ.2.2.2.2.2 ≤ 7 * (j + 1) by omega) (fun h9 h8 => (congrArg f_sum (lt_pause hJ h9)).trans (hbf h8)) hP hS q1 q2 (lv_sub hl [1, 2, 3, 4, 10, 11, 0] rfl)

set_option maxHeartbeats 8000000 in
set_option maxRecDepth 100000 in
theorem law_await {p : Program} {l : Launch} {e : Env} {s : State} {m : MethodId} {below : List Frame} {meth : Method} {c_ : Code} {b L : Nat} {xs : Nat → Int32} {G : va_G} {k : Nat → ClassId} {h : Nat} {a c : Nat → Nat} (F : LF p l s m meth c_ b L xs G k h a c) {σ : SX} (hJ : yJs σ) {z9 j A B v9 w9 : Nat} {cc nn isW kd : Int32} {bf : Int64} (hj : j < 58) (hd : σ.2.2.2.2.2 ≤ 7 * j) (hw8 : w9 < 5000000) (hbf : ¬ isW = 0 → f_sum σ = bf) (kt : KT p l e s m below meth c_ b G k h a c z9 isW bf j A B) {H : Heap} {locs : List Loc} {cells slots : Nat} {ls : Array Slot} (hP : va_P G vwCl (WS k h a c σ) H) (hS : yO s H locs) (hb1 : cells + (A + 100) ≤ 756716) (hb2 : slots + (B + 600) ≤ 6824554) (hl : lv_has ls 16 [(0, .ref b), (1, .ref h), (2, .int (nI z9)), (3, .int (nI j)), (4, .int (nI v9)), (5, .int (nI w9)), (6, .int cc), (7, .int (nI σ.2.2.2.2.1)), (8, .int nn), (9, .int isW), (10, .long bf), (12, .int 0), (13, .int kd)]) : W p l e room_1 s m #[Value.ref b] below meth c_ H locs cells slots (lw_Z below #[Value.ref b] s) (F0 m 201 ls []) := by
  obtain ⟨hx, hb, hr, hml, hown, hts, hX, hbl, hL, hK, hV, hl9, hlocks, hDA⟩ := F
  have hn0 : σ.2.1 ≤ 8 := J_n0 hJ
  have hn1 : σ.2.2.2.2.1 ≤ 80 := J_n1 hJ
  refine lv_aload_n hx hb dL_law_201 rfl (lv_at hl 1 rfl) ?_
  refine lv_iload hx hb dL_law_202 (lv_at hl 6 rfl) ?_
  refine lv_iconst (v := 4) hx hb dL_law_204 (by decide) ?_
  refine y_lrw (w := WS k h a c σ) (w' := WS k h a c (g_await cc σ)) (vx_runSW (As := [.ref h, .int cc, .int 4]) (rest := []) ⟨hx, hb, hml, hown, hts⟩ (c_of_4 l hl9 G k h a c σ H.size cc ((hDA σ).weaken (fun _ _ _ _ => trivial)) hJ.1) (vx_cwSW 3 hts gL_law_L_of rfl rfl rfl (by decide +kernel) ⟨Nat.le_of_ble_eq_true rfl, Nat.le_of_ble_eq_true rfl⟩) (yL_pre hS hV hP hK) rfl rfl hl.1 rfl (lv_room (Nat.le_of_ble_eq_true rfl)) dL_law_205 ⟨show cells + 2 ≤ 756716 by omega, show slots + 12 ≤ 6824554 by omega⟩) (hDA σ) hS (fun r H1 locs1 hr9 hP1 hS1 => ?_)
  have hP := hP1
  have hS := hS1
  clear hP1 hS1
  have hr9 : r = f_await cc σ := hr9
  subst hr9
  refine lv_istore (lv' := [(12, .int (f_await cc σ)), (0, .ref b), (1, .ref h), (2, .int (nI z9)), (3, .int (nI j)), (4, .int (nI v9)), (5, .int (nI w9)), (6, .int cc), (7, .int (nI σ.2.2.2.2.1)), (8, .int nn), (9, .int isW), (10, .long bf), (13, .int kd)]) hx hb dL_law_208 hl (by decide) rfl (fun ls hl => ?_)
  refine lv_goto (tgt := 723) hx hb dL_law_210 (by decide) ?_
  have q1 : cells + 2 + A ≤ 756716 := by omega
  have q2 : slots + 12 + B ≤ 6824554 := by omega
  exact kt _ _ _ _ _ _ _ (J_await hJ _) (show σ.2.2.2.2.2 ≤ 7 * (j + 1) by omega) (fun h9 h8 => (congrArg f_sum (lt_await h9)).trans (hbf h8)) hP hS q1 q2 (lv_sub hl [1, 2, 3, 4, 10, 11, 0] rfl)

set_option maxHeartbeats 8000000 in
set_option maxRecDepth 100000 in
theorem law_post {p : Program} {l : Launch} {e : Env} {s : State} {m : MethodId} {below : List Frame} {meth : Method} {c_ : Code} {b L : Nat} {xs : Nat → Int32} {G : va_G} {k : Nat → ClassId} {h : Nat} {a c : Nat → Nat} (F : LF p l s m meth c_ b L xs G k h a c) {σ : SX} (hJ : yJs σ) {z9 j A B v9 w9 : Nat} {cc nn isW kd : Int32} {bf : Int64} (hj : j < 58) (hd : σ.2.2.2.2.2 ≤ 7 * j) (hw8 : w9 < 5000000) (hbf : ¬ isW = 0 → f_sum σ = bf) (kt : KT p l e s m below meth c_ b G k h a c z9 isW bf j A B) {H : Heap} {locs : List Loc} {cells slots : Nat} {ls : Array Slot} (hP : va_P G vwCl (WS k h a c σ) H) (hS : yO s H locs) (hb1 : cells + (A + 100) ≤ 756716) (hb2 : slots + (B + 600) ≤ 6824554) (hl : lv_has ls 16 [(0, .ref b), (1, .ref h), (2, .int (nI z9)), (3, .int (nI j)), (4, .int (nI v9)), (5, .int (nI w9)), (6, .int cc), (7, .int (nI σ.2.2.2.2.1)), (8, .int nn), (9, .int isW), (10, .long bf), (12, .int 0), (13, .int kd)]) : W p l e room_1 s m #[Value.ref b] below meth c_ H locs cells slots (lw_Z below #[Value.ref b] s) (F0 m 220 ls []) := by
  obtain ⟨hx, hb, hr, hml, hown, hts, hX, hbl, hL, hK, hV, hl9, hlocks, hDA⟩ := F
  have hn0 : σ.2.1 ≤ 8 := J_n0 hJ
  have hn1 : σ.2.2.2.2.1 ≤ 80 := J_n1 hJ
  obtain ⟨adK, adV, hSQ, hT0, hT1⟩ := hV.2.2
  refine lv_iload hx hb dL_law_220 (lv_at hl 5 rfl) ?_
  refine lv_bipush (v := 7) hx hb dL_law_222 (by decide) ?_
  refine lv_idiv hx hb dL_law_224 (by decide) ?_
  refine lv_bipush (v := 60) hx hb dL_law_225 (by decide) ?_
  refine lv_irem hx hb dL_law_227 (by decide) ?_
  refine y_top (irem_eq_mod _ _) ?_
  obtain ⟨ky, e_ky⟩ : ∃ z : Int32, z = ((nI w9) / 7) % 60 := ⟨_, rfl⟩
  rw [← e_ky]
  clear e_ky
  refine lv_istore (lv' := [(14, .int ky), (0, .ref b), (1, .ref h), (2, .int (nI z9)), (3, .int (nI j)), (4, .int (nI v9)), (5, .int (nI w9)), (6, .int cc), (7, .int (nI σ.2.2.2.2.1)), (8, .int nn), (9, .int isW), (10, .long bf), (12, .int 0), (13, .int kd)]) hx hb dL_law_228 hl (by decide) rfl (fun ls hl => ?_)
  refine lv_aload_n hx hb dL_law_230 rfl (lv_at hl 2 rfl) ?_
  refine lv_iload hx hb dL_law_231 (lv_at hl 0 rfl) ?_
  refine y_lro (vx_runSW (As := [.ref h, .int ky]) (rest := []) ⟨hx, hb, hml, hown, hts⟩ (c_wk l hl9 G k h a c σ H.size ky hJ.1) (vx_cwSW 2 hts gL_law_L_withKey rfl rfl rfl (by decide +kernel) ⟨Nat.le_of_ble_eq_true rfl, Nat.le_of_ble_eq_true rfl⟩) (yL_pre hS hV hP hK) rfl rfl hl.1 rfl (lv_room (Nat.le_of_ble_eq_true rfl)) dL_law_233 ⟨show cells + 1 ≤ 756716 by omega, show slots + 6 ≤ 6824554 by omega⟩) hS (fun r H1 locs1 hr9 hk9 hS1 => ?_)
  have hP := yKeep hP hk9
  have hS := hS1
  clear hk9 hS1
  subst hr9
  refine lv_istore (lv' := [(15, .int (f_wk ky σ)), (14, .int ky), (0, .ref b), (1, .ref h), (2, .int (nI z9)), (3, .int (nI j)), (4, .int (nI v9)), (5, .int (nI w9)), (6, .int cc), (7, .int (nI σ.2.2.2.2.1)), (8, .int nn), (9, .int isW), (10, .long bf), (12, .int 0), (13, .int kd)]) hx hb dL_law_236 hl (by decide) rfl (fun ls hl => ?_)
  refine lv_aload_n hx hb dL_law_238 rfl (lv_at hl 3 rfl) ?_
  refine lv_iconst (v := 2) hx hb dL_law_239 (by decide) ?_
  refine va_newa (atype := .int) (n := 2) (N' := 2) (a0 := (2, .inl (fun _ => 0))) hx hb (hts (.arrayClass .int) (by decide +kernel)) rfl hK hP (hDA σ) hS (fun _ h9 => h9) (fun _ => rfl) (by decide) rfl (by decide) (show cells + 1 + 1 ≤ 756716 by omega) (show slots + 6 + 2 ≤ 6824554 by omega) dL_law_240 (fun q0 cN H1 hK1 hPa hDa hS1 => ?_)
  obtain rfl : k 0 = cN := ySame hK1 (j := 3) (i := 0) (ty := .int) rfl rfl rfl
  have hPa : va_P G vwCl ((q0, .inl (k 0, 2, .inl (fun _ => 0))) :: WS k h a c σ) H1 := hPa.sub [20, 0, 1, 2, 3, 4, 5, 6, 7, 8, 9, 10, 11, 12, 13, 14, 15, 16, 17, 18, 19] rfl
  have hDa : va_D (fun q : Nat => s.heap.size ≤ q) ((q0, .inl (k 0, 2, .inl (fun _ => 0))) :: WS k h a c σ) := hDa.sub [20, 0, 1, 2, 3, 4, 5, 6, 7, 8, 9, 10, 11, 12, 13, 14, 15, 16, 17, 18, 19] (by decide) rfl
  have hS := hS1
  clear hS1 hP hK1
  refine lv_dup hx hb dL_law_242 rfl ?_
  refine lv_iconst (v := 0) hx hb dL_law_243 (by decide) ?_
  refine lv_iload hx hb dL_law_244 (lv_at hl 7 rfl) ?_
  refine lv_iconst (v := 3) hx hb dL_law_246 (by decide) ?_
  refine lv_irem hx hb dL_law_247 (by decide) ?_
  refine y_top (irem_eq_mod _ _) ?_
  refine y_iast (ws' := (q0, .inl (k 0, 2, .inl (upd (fun _ => (0 : Int32)) 0 ((nI w9) % 3)))) :: WS k h a c σ) (j := 0) (x := ((nI w9) % 3)) hx hb hK hPa hDa hS 0 0 rfl rfl (by decide) (by decide) rfl dL_law_248 (fun H1 locs1 hPa hDa hS => ?_)
  refine lv_dup hx hb dL_law_249 rfl ?_
  refine lv_iconst (v := 1) hx hb dL_law_250 (by decide) ?_
  refine lv_iload hx hb dL_law_251 (lv_at hl 1 rfl) ?_
  refine y_iast (ws' := (q0, .inl (k 0, 2, .inl (upd (upd (fun _ => (0 : Int32)) 0 ((nI w9) % 3)) 1 ky))) :: WS k h a c σ) (j := 1) (x := ky) hx hb hK hPa hDa hS 0 0 rfl rfl (by decide) (by decide) rfl dL_law_253 (fun H1 locs1 hPa hDa hS => ?_)
  refine va_ldcS hx hb hown hT1 dL_law_254 ?_
  refine lv_iload hx hb dL_law_256 (lv_at hl 7 rfl) ?_
  refine lv_iconst (v := 3) hx hb dL_law_258 (by decide) ?_
  refine lv_idiv hx hb dL_law_259 (by decide) ?_
  refine y_top ((show nI w9 / 3 = nI (w9 / 3) from by rw [show (3 : Int32) = nI 3 from rfl]; exact nI_dv (by omega) (by decide))) ?_
  refine lv_iconst (v := 2) hx hb dL_law_260 (by decide) ?_
  refine lv_irem hx hb dL_law_261 (by decide) ?_
  refine y_top (irem_eq_mod _ _) ?_
  refine y_top ((show nI (w9 / 3) % 2 = nI (w9 / 3 % 2) from by rw [show (2 : Int32) = nI 2 from rfl]; exact nI_md (by omega) (by decide))) ?_
  refine y_callSi (va_runV (As := [.int (nI (w9 / 3 % 2))]) (rest := [.ref q0, .ref h]) ⟨hx, hb, hml, hown, hts⟩ (c_J0_charAt l adK adV 1 (w9 / 3 % 2) (by decide) (show w9 / 3 % 2 < 2 from Nat.mod_lt _ (by decide))) (cwV 1 hts gL_law_J0_charAt_5068e rfl rfl rfl (by decide +kernel) ⟨Nat.le_of_ble_eq_true rfl, Nat.le_of_ble_eq_true rfl⟩) ⟨fun a U g mk q9 => ⟨q9.1, ySQ.moved (u := U) (U := U.calling g mk a) (Vm.Alike.refl U.vm) q9.2⟩, ySQ_recv (hSQ.kept (yO_k hS)) (i := 1) (by decide), fun U hU hW => ⟨rfl, by show ySQ adK adV U U.heap; rw [hU]; exact ySQ.moved hW.alike (hSQ.kept (yO_k hS))⟩⟩ rfl rfl hl.1 rfl (lv_room (Nat.le_of_ble_eq_true rfl)) dL_law_262 ⟨show cells + 1 + 1 ≤ 756716 by omega, show slots + 6 + 2 ≤ 6824554 by omega⟩) (fun r hr9 => ?_)
  subst hr9
  refine lv_iload hx hb dL_law_265 (lv_at hl 7 rfl) ?_
  refine lv_sipush (v := 420) hx hb dL_law_267 (by decide) ?_
  refine lv_idiv hx hb dL_law_270 (by decide) ?_
  refine lv_iconst (v := 5) hx hb dL_law_271 (by decide) ?_
  refine lv_irem hx hb dL_law_272 (by decide) ?_
  refine y_top (irem_eq_mod _ _) ?_
  refine lv_iload hx hb dL_law_273 (lv_at hl 7 rfl) ?_
  refine lv_sipush (v := 2100) hx hb dL_law_275 (by decide) ?_
  refine lv_idiv hx hb dL_law_278 (by decide) ?_
  refine lv_sipush (v := 150) hx hb dL_law_279 (by decide) ?_
  refine lv_irem hx hb dL_law_282 (by decide) ?_
  refine y_top (irem_eq_mod _ _) ?_
  refine lv_iload hx hb dL_law_283 (lv_at hl 7 rfl) ?_
  refine lv_ldc (v := 315000) hx hb hown (hts (.constant RL 179 315000) (by decide +kernel)) dL_law_285 ?_
  refine lv_idiv hx hb dL_law_287 (by decide) ?_
  refine lv_iconst (v := 4) hx hb dL_law_288 (by decide) ?_
  refine lv_irem hx hb dL_law_289 (by decide) ?_
  refine y_top (irem_eq_mod _ _) ?_
  refine y_lrw (w := WS k h a c σ) (w' := WS k h a c (g_post ((nI w9) % 3) ky ((yTx 1).getD (w9 / 3 % 2) 0) (((nI w9) / 420) % 5) (((nI w9) / 2100) % 150) (((nI w9) / 315000) % 4) σ)) (vx_runSW (As := [.ref h, .ref q0, .int ((yTx 1).getD (w9 / 3 % 2) 0), .int (((nI w9) / 420) % 5), .int (((nI w9) / 2100) % 150), .int (((nI w9) / 315000) % 4)]) (rest := []) ⟨hx, hb, hml, hown, hts⟩ (c_post l hl9 G k h a c σ q0 (upd (upd (fun _ => (0 : Int32)) 0 ((nI w9) % 3)) 1 ky) H1.size ((yTx 1).getD (w9 / 3 % 2) 0) (((nI w9) / 420) % 5) (((nI w9) / 2100) % 150) (((nI w9) / 315000) % 4) ((hDA σ).weaken (fun _ _ _ _ => trivial)) hJ.1) (vx_cwSW 6 hts gL_law_L_post rfl rfl rfl (by decide +kernel) ⟨Nat.le_of_ble_eq_true rfl, Nat.le_of_ble_eq_true rfl⟩) (yL_pre hS hV hPa hK) rfl rfl hl.1 rfl (lv_room (Nat.le_of_ble_eq_true rfl)) dL_law_290 ⟨show cells + 1 + 1 + 2 ≤ 756716 by omega, show slots + 6 + 2 + 12 ≤ 6824554 by omega⟩) (hDA σ) hS (fun r H1 locs1 hr9 hP1 hS1 => ?_)
  have hP := hP1
  have hS := hS1
  clear hP1 hS1 hPa hDa
  have hr9 : r = f_post ((nI w9) % 3) ky ((yTx 1).getD (w9 / 3 % 2) 0) (((nI w9) / 420) % 5) (((nI w9) / 2100) % 150) (((nI w9) / 315000) % 4) σ := hr9
  subst hr9
  refine lv_istore (lv' := [(12, .int (f_post ((nI w9) % 3) ky ((yTx 1).getD (w9 / 3 % 2) 0) (((nI w9) / 420) % 5) (((nI w9) / 2100) % 150) (((nI w9) / 315000) % 4) σ)), (15, .int (f_wk ky σ)), (14, .int ky), (0, .ref b), (1, .ref h), (2, .int (nI z9)), (3, .int (nI j)), (4, .int (nI v9)), (5, .int (nI w9)), (6, .int cc), (7, .int (nI σ.2.2.2.2.1)), (8, .int nn), (9, .int isW), (10, .long bf), (13, .int kd)]) hx hb dL_law_293 hl (by decide) rfl (fun ls hl => ?_)
  refine lv_iload hx hb dL_law_295 (lv_at hl 0 rfl) ?_
  refine lv_if_lt (tgt := 346) hx hb dL_law_297 (by decide) (fun c297 => ?_) (fun c297 => ?_)
  · skip
    refine lv_goto (tgt := 723) hx hb dL_law_346 (by decide) ?_
    have q1 : cells + 1 + 1 + 2 + A ≤ 756716 := by omega
    have q2 : slots + 6 + 2 + 12 + B ≤ 6824554 := by omega
    exact kt _ _ _ _ _ _ _ (J_post hJ _ _ _ _ _ _) (show σ.2.2.2.2.2 ≤ 7 * (j + 1) by omega) (fun h9 h8 => (congrArg f_sum (lt_post hJ h9)).trans (hbf h8)) hP hS q1 q2 (lv_sub hl [3, 4, 5, 6, 12, 13, 0] rfl)
  · skip
    have hpc := post_c hJ c297
    refine lv_aload_n hx hb dL_law_300 rfl (lv_at hl 4 rfl) ?_
    refine lv_iload hx hb dL_law_301 (lv_at hl 2 rfl) ?_
    refine y_lro (vx_runSW (As := [.ref h, .int ky]) (rest := []) ⟨hx, hb, hml, hown, hts⟩ (c_wk l hl9 G k h a c (g_post ((nI w9) % 3) ky ((yTx 1).getD (w9 / 3 % 2) 0) (((nI w9) / 420) % 5) (((nI w9) / 2100) % 150) (((nI w9) / 315000) % 4) σ) H1.size ky (J_post hJ _ _ _ _ _ _).1) (vx_cwSW 2 hts gL_law_L_withKey rfl rfl rfl (by decide +kernel) ⟨Nat.le_of_ble_eq_true rfl, Nat.le_of_ble_eq_true rfl⟩) (yL_pre hS hV hP hK) rfl rfl hl.1 rfl (lv_room (Nat.le_of_ble_eq_true rfl)) dL_law_303 ⟨show cells + 1 + 1 + 2 + 1 ≤ 756716 by omega, show slots + 6 + 2 + 12 + 6 ≤ 6824554 by omega⟩) hS (fun r H1 locs1 hr9 hk9 hS1 => ?_)
    have hP := yKeep hP hk9
    have hS := hS1
    clear hk9 hS1
    subst hr9
    refine y_top (hpc.1) ?_
    refine lv_iload hx hb dL_law_306 (lv_at hl 0 rfl) ?_
    refine lv_icmp_ne (tgt := 344) hx hb dL_law_308 (by decide) (fun c9 => absurd rfl c9) (fun _ => ?_)
    refine lv_iload hx hb dL_law_311 (lv_at hl 1 rfl) ?_
    refine lv_if_lt (tgt := 332) hx hb dL_law_313 (by decide) (fun c313 => ?_) (fun c313 => ?_)
    · skip
      refine lv_iload hx hb dL_law_332 (lv_at hl 1 rfl) ?_
      refine lv_if_ge (tgt := 346) hx hb dL_law_334 (by decide) (fun c9 => absurd c9 (Int32.not_le.mpr c313)) (fun _ => ?_)
      refine lv_iload hx hb dL_law_337 (lv_at hl 0 rfl) ?_
      refine lv_iload hx hb dL_law_339 (lv_at hl 10 rfl) ?_
      refine lv_icmp_eq (tgt := 346) hx hb dL_law_341 (by decide) (fun _ => ?_) (fun c9 => absurd (hpc.2.2 c313) c9)
      refine lv_goto (tgt := 723) hx hb dL_law_346 (by decide) ?_
      have q1 : cells + 1 + 1 + 2 + 1 + A ≤ 756716 := by omega
      have q2 : slots + 6 + 2 + 12 + 6 + B ≤ 6824554 := by omega
      exact kt _ _ _ _ _ _ _ (J_post hJ _ _ _ _ _ _) (show σ.2.2.2.2.2 ≤ 7 * (j + 1) by omega) (fun h9 h8 => (congrArg f_sum (lt_post hJ h9)).trans (hbf h8)) hP hS q1 q2 (lv_sub hl [3, 4, 5, 6, 12, 13, 0] rfl)
    · skip
      refine lv_iload hx hb dL_law_316 (lv_at hl 1 rfl) ?_
      refine lv_iload hx hb dL_law_318 (lv_at hl 0 rfl) ?_
      refine lv_icmp_ne (tgt := 344) hx hb dL_law_320 (by decide) (fun c9 => absurd ((hpc.2.1 c313).1) c9) (fun _ => ?_)
      refine lv_aload_n hx hb dL_law_323 rfl (lv_at hl 4 rfl) ?_
      refine y_lro (va_runS (As := [.ref h]) (rest := []) ⟨hx, hb, hml, hown, hts⟩ (c_messages l hl9 G k h a c (g_post ((nI w9) % 3) ky ((yTx 1).getD (w9 / 3 % 2) 0) (((nI w9) / 420) % 5) (((nI w9) / 2100) % 150) (((nI w9) / 315000) % 4) σ) H1.size (J_post hJ _ _ _ _ _ _)) (va_cwS 1 hts gL_law_L_messages rfl rfl rfl (by decide +kernel) ⟨Nat.le_of_ble_eq_true rfl, Nat.le_of_ble_eq_true rfl⟩) (yL_pre hS hV hP hK) rfl rfl hl.1 rfl (lv_room (Nat.le_of_ble_eq_true rfl)) dL_law_324 ⟨show cells + 1 + 1 + 2 + 1 + 5 ≤ 756716 by omega, show slots + 6 + 2 + 12 + 6 + 30 ≤ 6824554 by omega⟩) hS (fun r H1 locs1 hr9 hk9 hS1 => ?_)
      have hP := yKeep hP hk9
      have hS := hS1
      clear hk9 hS1
      subst hr9
      refine lv_iload hx hb dL_law_327 (lv_at hl 10 rfl) ?_
      refine lv_icmp_ne (tgt := 344) hx hb dL_law_329 (by decide) (fun c9 => absurd ((hpc.2.1 c313).2) c9) (fun _ => ?_)
      refine lv_iload hx hb dL_law_332 (lv_at hl 1 rfl) ?_
      refine lv_if_ge (tgt := 346) hx hb dL_law_334 (by decide) (fun _ => ?_) (fun c9 => absurd (Int32.not_lt.mp c313) c9)
      refine lv_goto (tgt := 723) hx hb dL_law_346 (by decide) ?_
      have q1 : cells + 1 + 1 + 2 + 1 + 5 + A ≤ 756716 := by omega
      have q2 : slots + 6 + 2 + 12 + 6 + 30 + B ≤ 6824554 := by omega
      exact kt _ _ _ _ _ _ _ (J_post hJ _ _ _ _ _ _) (show σ.2.2.2.2.2 ≤ 7 * (j + 1) by omega) (fun h9 h8 => (congrArg f_sum (lt_post hJ h9)).trans (hbf h8)) hP hS q1 q2 (lv_sub hl [3, 4, 5, 6, 12, 13, 0] rfl)
