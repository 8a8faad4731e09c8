/-! the law's walk, a case at a time -/
def LF (p : Program) (l : Launch) (s : State) (m : MethodId) (meth : Method) (c : Code) (b L : Nat) (xs : Nat → Int32) (G : va_G) (k : Nat → ClassId) : Prop :=
  p.tables.exec = Jvm.exec ∧ c.code = cL_law ∧ meth.sig.returnType = ret ∧ c.maxLocals = 9 ∧ s.vm.findClass RL = some m.cls ∧ (∀ w ∈ wsL_law, w.before #[Value.ref b] s = true) ∧ va_X b L xs s s.heap ∧ b < s.heap.size ∧ L < 2 ^ 31 ∧ va_K G vwCl (yT k) s ∧ yEV0 s s.heap ∧ yNC s ∧ l.stackTraces = false
/-- the way on from the law's counting up -/
def LK (p : Program) (l : Launch) (e : Env) (s : State) (m : MethodId) (below : List Frame) (meth : Method) (c_ : Code) (b : Nat) (G : va_G) (k : Nat → ClassId) (oL oD h : Nat) (a c a3 : Nat → Nat) (i cells slots : Nat) (Q : State → Prop) : Prop :=
  ∀ {fL : Nat → Int64} {fD : Nat → UInt64} {C : Nat → Nat → Int32} {n0 : Nat} {M : Nat → Nat → Int32} {ds n1 d : Nat} {R : Nat → Nat → Int32} {th : Int32} {H : Heap} {locs : List Loc} {ls : Array Slot}, va_P G vwCl (WA k oL fL oD fD h a c a3 C n0 M ds n1 d R th) H → yY C n0 M ds n1 d R → va_S (fun q : Nat => s.heap.size ≤ q) s.heap H locs → lv_has ls 9 [(0, .ref b), (1, .ref h), (2, .ref (a3 0)), (3, .ref oL), (4, .ref oD), (5, .int (nI i))] → W p l e room_1 s m #[Value.ref b] below meth c_ H locs (cells + 6) (slots + 36) Q (F0 m 1724 ls [])
set_option maxHeartbeats 4000000 in
set_option maxRecDepth 100000 in
theorem law_open {p : Program} {l : Launch} {e : Env} {s : State} {m : MethodId} {below : List Frame} {meth : Method} {c_ : Code} {b L : Nat} {xs : Nat → Int32} {G : va_G} {k : Nat → ClassId} {oL oD h : Nat} {a c a3 : Nat → Nat} (F : LF p l s m meth c_ b L xs G k) {i : Nat} (hi : i + 7 ≤ L) {cells slots : Nat} (hc : cells + 6 ≤ 3132 ∧ slots + 36 ≤ 120728) {Q : State → Prop} {fL : Nat → Int64} {fD : Nat → UInt64} {C : Nat → Nat → Int32} {n0 : Nat} {M : Nat → Nat → Int32} {ds n1 d : Nat} {R : Nat → Nat → Int32} {th : Int32} {H : Heap} {locs : List Loc} (hP : va_P G vwCl (WA k oL fL oD fD h a c a3 C n0 M ds n1 d R th) H) (hD : va_D (fun q : Nat => s.heap.size ≤ q) (WA k oL fL oD fD h a c a3 C n0 M ds n1 d R th)) (hY : yY C n0 M ds n1 d R) (hS : va_S (fun q : Nat => s.heap.size ≤ q) s.heap H locs) {ls : Array Slot} (hl : lv_has ls 9 [(0, .ref b), (1, .ref h), (2, .ref (a3 0)), (3, .ref oL), (4, .ref oD), (5, .int (nI i))]) (kk : LK p l e s m below meth c_ b G k oL oD h a c a3 i cells slots Q) : W p l e room_1 s m #[Value.ref b] below meth c_ H locs cells slots Q (F0 m 164 ls []) := by
  obtain ⟨hx, hb, hr, hml, hown, hts, hX, hbl, hL, hK, hE, hNC, hl9⟩ := F
  have hA : ∀ q : Nat, s.heap.size ≤ q → (fun q : Nat => s.heap.size ≤ q) q := fun _ h => h
  have hbA : ¬ (fun q : Nat => s.heap.size ≤ q) b := Nat.not_le.mpr hbl
  have hn := hY.1.1
  have hn1 := hY.1.2.1
  have hC := hY.1.2.2.2.1
  have hw : ∀ z, z < n0 → C 4 z = 0 ∨ C 4 z = 1 := fun z _ => hY.1.2.2.2.2.1 z
  have hE1 : yEV0 s H := yEV0_kept hE ⟨hS.1, hS.2.1, fun q hq => nomatch hq⟩ (fun q h1 h2 => absurd h1 (Nat.not_lt.mpr h2))
  refine lv_aload_n hx hb dL_law_164 rfl (lv_at hl 1 rfl) ?_
  refine y_scr (j := 1) (n1 := 1) hx hb hX hbl hbA hS hl rfl rfl (by omega) (by omega) dL_law_165 dL_law_166 (fun st k9 => lv_iconst (v := nI 1) hx hb dL_law_168 (by decide) k9) dL_law_169 dL_law_170 ?_
  refine y_scr (j := 2) (n1 := 1) hx hb hX hbl hbA hS hl rfl rfl (by omega) (by omega) dL_law_171 dL_law_172 (fun st k9 => lv_iconst (v := nI 2) hx hb dL_law_174 (by decide) k9) dL_law_175 dL_law_176 ?_
  refine lv_aload_n hx hb dL_law_177 rfl (lv_at hl 3 rfl) ?_
  refine y_lcall (w2 := ((oD, .inl (k 4, 1, .inr (.inr (.inr (.inl fD))))) :: W3 k a3 C n0 R n1 d th)) (vx_runSW (As := [.ref h, .int (xs (i + 1)), .int (xs (i + 2)), .ref oL]) (rest := []) ⟨hx, hb, hml, hown, hts⟩ (c_L_open l hl9 G k h a c C n0 M ds n1 d oL fL H.size (xs (i + 1)) (xs (i + 2)) ((yD_l hD).weaken (fun _ _ _ _ => trivial)) hn hn1) (vx_cwSW 4 hts gL_law_L_open rfl rfl rfl (by decide +kernel) ⟨Nat.le_of_ble_eq_true rfl, Nat.le_of_ble_eq_true rfl⟩) ⟨yL_blind, fun U hU hW => ⟨rfl, by rw [hU], by rw [hU]; exact yP_l hP, va_K.moved hW.alike hK, yEV_at hE1 hU hW, fun z hz => va_Nc.moved hW.alike (hNC z hz)⟩⟩ rfl rfl hl.1 rfl (lv_room (Nat.le_of_ble_eq_true rfl)) dL_law_178 ⟨show cells + 1 ≤ 3132 by omega, show slots + 6 ≤ 120728 by omega⟩) hP hD hA hS (fun r fL1 H1 locs1 hp hP hS => ?_)
  obtain ⟨hp1, hp2⟩ := hp
  have hP : va_P G vwCl (WL k oL fL1 h a c ((o_open (xs (i + 1)) (xs (i + 2)) C n0 M n1 d).2.2.1) ((o_open (xs (i + 1)) (xs (i + 2)) C n0 M n1 d).2.2.2.2) ((o_open (xs (i + 1)) (xs (i + 2)) C n0 M n1 d).2.2.2.1) ds n1 d ++ ((oD, .inl (k 4, 1, .inr (.inr (.inr (.inl fD))))) :: W3 k a3 C n0 R n1 d th)) H1 := hP
  refine lv_istore (lv' := [(6, .int r), (0, .ref b), (1, .ref h), (2, .ref (a3 0)), (3, .ref oL), (4, .ref oD), (5, .int (nI i))]) hx hb dL_law_181 hl (by decide) rfl (fun ls hl => ?_)
  have hl := lv_sub (l' := [(0, .ref b), (1, .ref h), (2, .ref (a3 0)), (3, .ref oL), (4, .ref oD), (5, .int (nI i)), (6, .int r)]) hl [1, 2, 3, 4, 5, 6, 0] rfl
  refine lv_aload_n hx hb dL_law_183 rfl (lv_at hl 2 rfl) ?_
  refine y_scr (j := 1) (n1 := 1) hx hb hX hbl hbA hS hl rfl rfl (by omega) (by omega) dL_law_184 dL_law_185 (fun st k9 => lv_iconst (v := nI 1) hx hb dL_law_187 (by decide) k9) dL_law_188 dL_law_189 ?_
  refine y_scr (j := 2) (n1 := 1) hx hb hX hbl hbA hS hl rfl rfl (by omega) (by omega) dL_law_190 dL_law_191 (fun st k9 => lv_iconst (v := nI 2) hx hb dL_law_193 (by decide) k9) dL_law_194 dL_law_195 ?_
  have hP3 : va_P G vwCl (W3 k a3 C n0 R n1 d th ++ (WL k oL fL1 h a c ((o_open (xs (i + 1)) (xs (i + 2)) C n0 M n1 d).2.2.1) ((o_open (xs (i + 1)) (xs (i + 2)) C n0 M n1 d).2.2.2.2) ((o_open (xs (i + 1)) (xs (i + 2)) C n0 M n1 d).2.2.2.1) ds n1 d ++ [(oD, .inl (k 4, 1, .inr (.inr (.inr (.inl fD)))))])) H1 := hP.sub [22, 23, 24, 25, 26, 27, 28, 29, 30, 31, 32, 33, 34, 35, 36, 37, 0, 1, 2, 3, 4, 5, 6, 7, 8, 9, 10, 11, 12, 13, 14, 15, 16, 17, 18, 19, 20, 21] rfl
  have hD3 : va_D (fun q : Nat => s.heap.size ≤ q) (W3 k a3 C n0 R n1 d th ++ (WL k oL fL1 h a c ((o_open (xs (i + 1)) (xs (i + 2)) C n0 M n1 d).2.2.1) ((o_open (xs (i + 1)) (xs (i + 2)) C n0 M n1 d).2.2.2.2) ((o_open (xs (i + 1)) (xs (i + 2)) C n0 M n1 d).2.2.2.1) ds n1 d ++ [(oD, .inl (k 4, 1, .inr (.inr (.inr (.inl fD)))))])) := yD (hD.sub (ws' := W3 k a3 C n0 R n1 d th ++ (WL k oL fL h a c C n0 M ds n1 d ++ [(oD, .inl (k 4, 1, .inr (.inr (.inr (.inl fD)))))])) [22, 23, 24, 25, 26, 27, 28, 29, 30, 31, 32, 33, 34, 35, 36, 37, 0, 1, 2, 3, 4, 5, 6, 7, 8, 9, 10, 11, 12, 13, 14, 15, 16, 17, 18, 19, 20, 21] (by decide) rfl) rfl
  refine y_lcall (w1 := W3 k a3 C n0 R n1 d th) (w2 := (WL k oL fL1 h a c ((o_open (xs (i + 1)) (xs (i + 2)) C n0 M n1 d).2.2.1) ((o_open (xs (i + 1)) (xs (i + 2)) C n0 M n1 d).2.2.2.2) ((o_open (xs (i + 1)) (xs (i + 2)) C n0 M n1 d).2.2.2.1) ds n1 d ++ [(oD, .inl (k 4, 1, .inr (.inr (.inr (.inl fD)))))])) (va_runV (As := [.int (xs (i + 1)), .int (xs (i + 2))]) (rest := []) ⟨hx, hb, hml, hown, hts⟩ (c_X3_open l G k a3 C n0 R n1 d th H1.size (xs (i + 1)) (xs (i + 2)) ((yD_l hD3).weaken (fun _ _ _ _ => trivial)) hn hn1) (cwV 2 hts gL_law_X3_open rfl rfl rfl (by decide +kernel) ⟨Nat.le_of_ble_eq_true rfl, Nat.le_of_ble_eq_true rfl⟩) ⟨yBs_blind, va_recv hK (yP_l hP3) (ci := 5) (q0 := 0) rfl rfl, fun U hU hW => ⟨rfl, by rw [hU], by rw [hU]; exact yP_l hP3, va_K.moved hW.alike hK⟩⟩ rfl rfl hl.1 rfl (lv_room (Nat.le_of_ble_eq_true rfl)) dL_law_196 ⟨show cells + 1 + 0 ≤ 3132 by omega, show slots + 6 + 0 ≤ 120728 by omega⟩) hP3 hD3 hA hS (fun r2 u2 H2 locs2 hq hP hS => ?_)
  have e9 := rel_open hY.2 (x := (xs (i + 1))) (due := (xs (i + 2))) (C := C) (n0 := n0) (n1 := n1) (d := d)
  have ec : ((o_open (xs (i + 1)) (xs (i + 2)) C n0 R n1 d)).1 = ((o_open (xs (i + 1)) (xs (i + 2)) C n0 M n1 d)).1 := by first | exact e9.1 | exact (rel_open hY.2 (x := (xs (i + 1))) (due := (xs (i + 2))) (C := C) (n0 := n0) (n1 := n1) (d := d)).1
  have ea : ((o_open (xs (i + 1)) (xs (i + 2)) C n0 R n1 d)).2.1 = ((o_open (xs (i + 1)) (xs (i + 2)) C n0 M n1 d)).2.1 := by first | exact e9.2.1 | exact (rel_open hY.2 (x := (xs (i + 1))) (due := (xs (i + 2))) (C := C) (n0 := n0) (n1 := n1) (d := d)).2.1
  have hP : va_P G vwCl (W3 k a3 ((o_open (xs (i + 1)) (xs (i + 2)) C n0 R n1 d).2.2.1) ((o_open (xs (i + 1)) (xs (i + 2)) C n0 R n1 d).2.2.2.2) ((o_open (xs (i + 1)) (xs (i + 2)) C n0 R n1 d).2.2.2.1) n1 d ((o_open (xs (i + 1)) (xs (i + 2)) C n0 R n1 d).1) ++ (WL k oL fL1 h a c ((o_open (xs (i + 1)) (xs (i + 2)) C n0 M n1 d).2.2.1) ((o_open (xs (i + 1)) (xs (i + 2)) C n0 M n1 d).2.2.2.2) ((o_open (xs (i + 1)) (xs (i + 2)) C n0 M n1 d).2.2.2.1) ds n1 d ++ [(oD, .inl (k 4, 1, .inr (.inr (.inr (.inl fD)))))])) H2 := hP
  refine lv_istore (lv' := [(7, .int r2), (0, .ref b), (1, .ref h), (2, .ref (a3 0)), (3, .ref oL), (4, .ref oD), (5, .int (nI i)), (6, .int r)]) hx hb dL_law_199 hl (by decide) rfl (fun ls hl => ?_)
  have hl := lv_sub (l' := [(0, .ref b), (1, .ref h), (2, .ref (a3 0)), (3, .ref oL), (4, .ref oD), (5, .int (nI i)), (6, .int r), (7, .int r2)]) hl [1, 2, 3, 4, 5, 6, 7, 0] rfl
  refine lv_aload_n hx hb dL_law_201 rfl (lv_at hl 2 rfl) ?_
  refine y_roV (As := []) (rest := []) ⟨hx, hb, hml, hown, hts⟩ (c_X3_thrown l G k a3 ((o_open (xs (i + 1)) (xs (i + 2)) C n0 R n1 d).2.2.1) ((o_open (xs (i + 1)) (xs (i + 2)) C n0 R n1 d).2.2.2.2) ((o_open (xs (i + 1)) (xs (i + 2)) C n0 R n1 d).2.2.2.1) n1 d ((o_open (xs (i + 1)) (xs (i + 2)) C n0 R n1 d).1)) (cwV 0 hts gL_law_X3_thrown rfl rfl rfl (by decide +kernel) ⟨Nat.le_of_ble_eq_true rfl, Nat.le_of_ble_eq_true rfl⟩) hK (yP_l hP) (va_recv hK (yP_l hP) (ci := 5) (q0 := 0) rfl rfl) rfl hl.1 rfl (Nat.le_of_ble_eq_true rfl) dL_law_202 ⟨show cells + 1 + 0 ≤ 3132 by omega, show slots + 6 + 0 ≤ 120728 by omega⟩ (fun r3 hr3 => ?_)
  refine lv_iload hx hb dL_law_205 (lv_at hl 6 rfl) ?_
  refine lv_icmp_eq (tgt := 212) hx hb dL_law_207 (by decide) (fun c1 => ?_) (fun c1 => absurd (hr3.trans (ec.trans hp1.symm)) c1)
  rw [e9.2.2.1, e9.2.2.2.1] at hP
  have hPf : va_P G vwCl (WA k oL fL1 oD fD h a c a3 ((o_open (xs (i + 1)) (xs (i + 2)) C n0 M n1 d).2.2.1) ((o_open (xs (i + 1)) (xs (i + 2)) C n0 M n1 d).2.2.2.2) ((o_open (xs (i + 1)) (xs (i + 2)) C n0 M n1 d).2.2.2.1) ds n1 d ((o_open (xs (i + 1)) (xs (i + 2)) C n0 R n1 d).2.2.2.1) ((o_open (xs (i + 1)) (xs (i + 2)) C n0 R n1 d).1)) H2 := hP.sub [16, 17, 18, 19, 20, 21, 22, 23, 24, 25, 26, 27, 28, 29, 30, 31, 32, 33, 34, 35, 36, 37, 0, 1, 2, 3, 4, 5, 6, 7, 8, 9, 10, 11, 12, 13, 14, 15] rfl
  have hYf : yY ((o_open (xs (i + 1)) (xs (i + 2)) C n0 M n1 d).2.2.1) ((o_open (xs (i + 1)) (xs (i + 2)) C n0 M n1 d).2.2.2.2) ((o_open (xs (i + 1)) (xs (i + 2)) C n0 M n1 d).2.2.2.1) ds n1 d ((o_open (xs (i + 1)) (xs (i + 2)) C n0 R n1 d).2.2.2.1) := yY_open hY (xs (i + 1)) (xs (i + 2))
  have fin : W p l e room_1 s m #[Value.ref b] below meth c_ H2 locs2 (cells + 1 + 0) (slots + 6 + 0) Q (F0 m 229 ls []) := by
    refine lv_goto (tgt := 1724) hx hb dL_law_229 (by decide) ?_
    refine W.widen (k := cells + 6) (n := slots + 36) (by omega) (by omega) ?_
    exact kk hPf hYf hS (lv_sub hl [0, 1, 2, 3, 4, 5] rfl)
  refine lv_iload hx hb dL_law_212 (lv_at hl 6 rfl) ?_
  refine lv_if_ne (tgt := 229) hx hb dL_law_214 (by decide) (fun _ => fin) (fun c2 => ?_)
  have h0 := hp2 (by rw [← hp1]; exact c2)
  refine lv_aload_n hx hb dL_law_217 rfl (lv_at hl 3 rfl) ?_
  refine lv_iconst (v := 0) hx hb dL_law_218 (by decide) ?_
  refine va_lald hx hb hK hPf 0 3 rfl rfl (vp_in_nI (n := 0) (N := 1) (by decide) (by decide)) dL_law_219 ?_
  refine lv_iload hx hb dL_law_220 (lv_at hl 7 rfl) ?_
  refine lv_i2l (v := r2.toInt64) hx hb dL_law_222 rfl ?_
  refine y_lcmp hx hb (by show fL1 0 = _; rw [h0, hq, ea]) dL_law_223 ?_
  exact lv_if_eq (tgt := 229) hx hb dL_law_224 (by decide) (fun _ => fin) (fun c3 => absurd rfl c3)
set_option maxHeartbeats 4000000 in
set_option maxRecDepth 100000 in
theorem law_amount {p : Program} {l : Launch} {e : Env} {s : State} {m : MethodId} {below : List Frame} {meth : Method} {c_ : Code} {b L : Nat} {xs : Nat → Int32} {G : va_G} {k : Nat → ClassId} {oL oD h : Nat} {a c a3 : Nat → Nat} (F : LF p l s m meth c_ b L xs G k) {i : Nat} (hi : i + 7 ≤ L) {cells slots : Nat} (hc : cells + 6 ≤ 3132 ∧ slots + 36 ≤ 120728) {Q : State → Prop} {fL : Nat → Int64} {fD : Nat → UInt64} {C : Nat → Nat → Int32} {n0 : Nat} {M : Nat → Nat → Int32} {ds n1 d : Nat} {R : Nat → Nat → Int32} {th : Int32} {H : Heap} {locs : List Loc} (hP : va_P G vwCl (WA k oL fL oD fD h a c a3 C n0 M ds n1 d R th) H) (hD : va_D (fun q : Nat => s.heap.size ≤ q) (WA k oL fL oD fD h a c a3 C n0 M ds n1 d R th)) (hY : yY C n0 M ds n1 d R) (hS : va_S (fun q : Nat => s.heap.size ≤ q) s.heap H locs) {ls : Array Slot} (hl : lv_has ls 9 [(0, .ref b), (1, .ref h), (2, .ref (a3 0)), (3, .ref oL), (4, .ref oD), (5, .int (nI i))]) (kk : LK p l e s m below meth c_ b G k oL oD h a c a3 i cells slots Q) : W p l e room_1 s m #[Value.ref b] below meth c_ H locs cells slots Q (F0 m 232 ls []) := by
  obtain ⟨hx, hb, hr, hml, hown, hts, hX, hbl, hL, hK, hE, hNC, hl9⟩ := F
  have hA : ∀ q : Nat, s.heap.size ≤ q → (fun q : Nat => s.heap.size ≤ q) q := fun _ h => h
  have hbA : ¬ (fun q : Nat => s.heap.size ≤ q) b := Nat.not_le.mpr hbl
  have hn := hY.1.1
  have hn1 := hY.1.2.1
  have hC := hY.1.2.2.2.1
  have hw : ∀ z, z < n0 → C 4 z = 0 ∨ C 4 z = 1 := fun z _ => hY.1.2.2.2.2.1 z
  have hE1 : yEV0 s H := yEV0_kept hE ⟨hS.1, hS.2.1, fun q hq => nomatch hq⟩ (fun q h1 h2 => absurd h1 (Nat.not_lt.mpr h2))
  refine lv_aload_n hx hb dL_law_232 rfl (lv_at hl 1 rfl) ?_
  refine y_scr (j := 1) (n1 := 1) hx hb hX hbl hbA hS hl rfl rfl (by omega) (by omega) dL_law_233 dL_law_234 (fun st k9 => lv_iconst (v := nI 1) hx hb dL_law_236 (by decide) k9) dL_law_237 dL_law_238 ?_
  refine lv_aload_n hx hb dL_law_239 rfl (lv_at hl 3 rfl) ?_
  refine y_lcall (w2 := ((oD, .inl (k 4, 1, .inr (.inr (.inr (.inl fD))))) :: W3 k a3 C n0 R n1 d th)) (vx_runSW (As := [.ref h, .int (xs (i + 1)), .ref oL]) (rest := []) ⟨hx, hb, hml, hown, hts⟩ (c_L_amount l hl9 G k h a c C n0 M ds n1 d oL fL H.size (xs (i + 1)) ((yD_l hD).weaken (fun _ _ _ _ => trivial)) hn) (vx_cwSW 3 hts gL_law_L_amount rfl rfl rfl (by decide +kernel) ⟨Nat.le_of_ble_eq_true rfl, Nat.le_of_ble_eq_true rfl⟩) ⟨yL_blind, fun U hU hW => ⟨rfl, by rw [hU], by rw [hU]; exact yP_l hP, va_K.moved hW.alike hK, yEV_at hE1 hU hW, fun z hz => va_Nc.moved hW.alike (hNC z hz)⟩⟩ rfl rfl hl.1 rfl (lv_room (Nat.le_of_ble_eq_true rfl)) dL_law_240 ⟨show cells + 1 ≤ 3132 by omega, show slots + 6 ≤ 120728 by omega⟩) hP hD hA hS (fun r fL1 H1 locs1 hp hP hS => ?_)
  obtain ⟨hp1, hp2⟩ := hp
  have hP : va_P G vwCl (WL k oL fL1 h a c C n0 M ds n1 d ++ ((oD, .inl (k 4, 1, .inr (.inr (.inr (.inl fD))))) :: W3 k a3 C n0 R n1 d th)) H1 := hP
  refine lv_istore (lv' := [(6, .int r), (0, .ref b), (1, .ref h), (2, .ref (a3 0)), (3, .ref oL), (4, .ref oD), (5, .int (nI i))]) hx hb dL_law_243 hl (by decide) rfl (fun ls hl => ?_)
  have hl := lv_sub (l' := [(0, .ref b), (1, .ref h), (2, .ref (a3 0)), (3, .ref oL), (4, .ref oD), (5, .int (nI i)), (6, .int r)]) hl [1, 2, 3, 4, 5, 6, 0] rfl
  refine lv_aload_n hx hb dL_law_245 rfl (lv_at hl 2 rfl) ?_
  refine y_scr (j := 1) (n1 := 1) hx hb hX hbl hbA hS hl rfl rfl (by omega) (by omega) dL_law_246 dL_law_247 (fun st k9 => lv_iconst (v := nI 1) hx hb dL_law_249 (by decide) k9) dL_law_250 dL_law_251 ?_
  have hP3 : va_P G vwCl (W3 k a3 C n0 R n1 d th ++ (WL k oL fL1 h a c C n0 M ds n1 d ++ [(oD, .inl (k 4, 1, .inr (.inr (.inr (.inl fD)))))])) H1 := hP.sub [22, 23, 24, 25, 26, 27, 28, 29, 30, 31, 32, 33, 34, 35, 36, 37, 0, 1, 2, 3, 4, 5, 6, 7, 8, 9, 10, 11, 12, 13, 14, 15, 16, 17, 18, 19, 20, 21] rfl
  have hD3 : va_D (fun q : Nat => s.heap.size ≤ q) (W3 k a3 C n0 R n1 d th ++ (WL k oL fL1 h a c C n0 M ds n1 d ++ [(oD, .inl (k 4, 1, .inr (.inr (.inr (.inl fD)))))])) := yD (hD.sub (ws' := W3 k a3 C n0 R n1 d th ++ (WL k oL fL h a c C n0 M ds n1 d ++ [(oD, .inl (k 4, 1, .inr (.inr (.inr (.inl fD)))))])) [22, 23, 24, 25, 26, 27, 28, 29, 30, 31, 32, 33, 34, 35, 36, 37, 0, 1, 2, 3, 4, 5, 6, 7, 8, 9, 10, 11, 12, 13, 14, 15, 16, 17, 18, 19, 20, 21] (by decide) rfl) rfl
  refine y_lcall (w1 := W3 k a3 C n0 R n1 d th) (w2 := (WL k oL fL1 h a c C n0 M ds n1 d ++ [(oD, .inl (k 4, 1, .inr (.inr (.inr (.inl fD)))))])) (va_runV (As := [.int (xs (i + 1))]) (rest := []) ⟨hx, hb, hml, hown, hts⟩ (c_X3_amount l G k a3 C n0 R n1 d th H1.size (xs (i + 1)) ((yD_l hD3).weaken (fun _ _ _ _ => trivial)) hn) (cwV 1 hts gL_law_X3_amount rfl rfl rfl (by decide +kernel) ⟨Nat.le_of_ble_eq_true rfl, Nat.le_of_ble_eq_true rfl⟩) ⟨yBs_blind, va_recv hK (yP_l hP3) (ci := 5) (q0 := 0) rfl rfl, fun U hU hW => ⟨rfl, by rw [hU], by rw [hU]; exact yP_l hP3, va_K.moved hW.alike hK⟩⟩ rfl rfl hl.1 rfl (lv_room (Nat.le_of_ble_eq_true rfl)) dL_law_252 ⟨show cells + 1 + 0 ≤ 3132 by omega, show slots + 6 + 0 ≤ 120728 by omega⟩) hP3 hD3 hA hS (fun r2 u2 H2 locs2 hq hP hS => ?_)
  have ec : ((o_amount (xs (i + 1)) C n0)).1 = ((o_amount (xs (i + 1)) C n0)).1 := rfl
  have ea : ((o_amount (xs (i + 1)) C n0)).2 = ((o_amount (xs (i + 1)) C n0)).2 := rfl
  have hP : va_P G vwCl (W3 k a3 C n0 R n1 d ((o_amount (xs (i + 1)) C n0).1) ++ (WL k oL fL1 h a c C n0 M ds n1 d ++ [(oD, .inl (k 4, 1, .inr (.inr (.inr (.inl fD)))))])) H2 := hP
  refine lv_istore (lv' := [(7, .int r2), (0, .ref b), (1, .ref h), (2, .ref (a3 0)), (3, .ref oL), (4, .ref oD), (5, .int (nI i)), (6, .int r)]) hx hb dL_law_255 hl (by decide) rfl (fun ls hl => ?_)
  have hl := lv_sub (l' := [(0, .ref b), (1, .ref h), (2, .ref (a3 0)), (3, .ref oL), (4, .ref oD), (5, .int (nI i)), (6, .int r), (7, .int r2)]) hl [1, 2, 3, 4, 5, 6, 7, 0] rfl
  refine lv_aload_n hx hb dL_law_257 rfl (lv_at hl 2 rfl) ?_
  refine y_roV (As := []) (rest := []) ⟨hx, hb, hml, hown, hts⟩ (c_X3_thrown l G k a3 C n0 R n1 d ((o_amount (xs (i + 1)) C n0).1)) (cwV 0 hts gL_law_X3_thrown rfl rfl rfl (by decide +kernel) ⟨Nat.le_of_ble_eq_true rfl, Nat.le_of_ble_eq_true rfl⟩) hK (yP_l hP) (va_recv hK (yP_l hP) (ci := 5) (q0 := 0) rfl rfl) rfl hl.1 rfl (Nat.le_of_ble_eq_true rfl) dL_law_258 ⟨show cells + 1 + 0 ≤ 3132 by omega, show slots + 6 + 0 ≤ 120728 by omega⟩ (fun r3 hr3 => ?_)
  refine lv_iload hx hb dL_law_261 (lv_at hl 6 rfl) ?_
  refine lv_icmp_eq (tgt := 268) hx hb dL_law_263 (by decide) (fun c1 => ?_) (fun c1 => absurd (hr3.trans (ec.trans hp1.symm)) c1)
  have hPf : va_P G vwCl (WA k oL fL1 oD fD h a c a3 C n0 M ds n1 d R ((o_amount (xs (i + 1)) C n0).1)) H2 := hP.sub [16, 17, 18, 19, 20, 21, 22, 23, 24, 25, 26, 27, 28, 29, 30, 31, 32, 33, 34, 35, 36, 37, 0, 1, 2, 3, 4, 5, 6, 7, 8, 9, 10, 11, 12, 13, 14, 15] rfl
  have hYf : yY C n0 M ds n1 d R := hY
  have fin : W p l e room_1 s m #[Value.ref b] below meth c_ H2 locs2 (cells + 1 + 0) (slots + 6 + 0) Q (F0 m 285 ls []) := by
    refine lv_goto (tgt := 1724) hx hb dL_law_285 (by decide) ?_
    refine W.widen (k := cells + 6) (n := slots + 36) (by omega) (by omega) ?_
    exact kk hPf hYf hS (lv_sub hl [0, 1, 2, 3, 4, 5] rfl)
  refine lv_iload hx hb dL_law_268 (lv_at hl 6 rfl) ?_
  refine lv_if_ne (tgt := 285) hx hb dL_law_270 (by decide) (fun _ => fin) (fun c2 => ?_)
  have h0 := hp2 (by rw [← hp1]; exact c2)
  refine lv_aload_n hx hb dL_law_273 rfl (lv_at hl 3 rfl) ?_
  refine lv_iconst (v := 0) hx hb dL_law_274 (by decide) ?_
  refine va_lald hx hb hK hPf 0 3 rfl rfl (vp_in_nI (n := 0) (N := 1) (by decide) (by decide)) dL_law_275 ?_
  refine lv_iload hx hb dL_law_276 (lv_at hl 7 rfl) ?_
  refine lv_i2l (v := r2.toInt64) hx hb dL_law_278 rfl ?_
  refine y_lcmp hx hb (by show fL1 0 = _; rw [h0, hq, ea]) dL_law_279 ?_
  exact lv_if_eq (tgt := 285) hx hb dL_law_280 (by decide) (fun _ => fin) (fun c3 => absurd rfl c3)
set_option maxHeartbeats 4000000 in
set_option maxRecDepth 100000 in
theorem law_pause {p : Program} {l : Launch} {e : Env} {s : State} {m : MethodId} {below : List Frame} {meth : Method} {c_ : Code} {b L : Nat} {xs : Nat → Int32} {G : va_G} {k : Nat → ClassId} {oL oD h : Nat} {a c a3 : Nat → Nat} (F : LF p l s m meth c_ b L xs G k) {i : Nat} (hi : i + 7 ≤ L) {cells slots : Nat} (hc : cells + 6 ≤ 3132 ∧ slots + 36 ≤ 120728) {Q : State → Prop} {fL : Nat → Int64} {fD : Nat → UInt64} {C : Nat → Nat → Int32} {n0 : Nat} {M : Nat → Nat → Int32} {ds n1 d : Nat} {R : Nat → Nat → Int32} {th : Int32} {H : Heap} {locs : List Loc} (hP : va_P G vwCl (WA k oL fL oD fD h a c a3 C n0 M ds n1 d R th) H) (hD : va_D (fun q : Nat => s.heap.size ≤ q) (WA k oL fL oD fD h a c a3 C n0 M ds n1 d R th)) (hY : yY C n0 M ds n1 d R) (hS : va_S (fun q : Nat => s.heap.size ≤ q) s.heap H locs) {ls : Array Slot} (hl : lv_has ls 9 [(0, .ref b), (1, .ref h), (2, .ref (a3 0)), (3, .ref oL), (4, .ref oD), (5, .int (nI i))]) (kk : LK p l e s m below meth c_ b G k oL oD h a c a3 i cells slots Q) : W p l e room_1 s m #[Value.ref b] below meth c_ H locs cells slots Q (F0 m 288 ls []) := by
  obtain ⟨hx, hb, hr, hml, hown, hts, hX, hbl, hL, hK, hE, hNC, hl9⟩ := F
  have hA : ∀ q : Nat, s.heap.size ≤ q → (fun q : Nat => s.heap.size ≤ q) q := fun _ h => h
  have hbA : ¬ (fun q : Nat => s.heap.size ≤ q) b := Nat.not_le.mpr hbl
  have hn := hY.1.1
  have hn1 := hY.1.2.1
  have hC := hY.1.2.2.2.1
  have hw : ∀ z, z < n0 → C 4 z = 0 ∨ C 4 z = 1 := fun z _ => hY.1.2.2.2.2.1 z
  have hE1 : yEV0 s H := yEV0_kept hE ⟨hS.1, hS.2.1, fun q hq => nomatch hq⟩ (fun q h1 h2 => absurd h1 (Nat.not_lt.mpr h2))
  refine lv_aload_n hx hb dL_law_288 rfl (lv_at hl 1 rfl) ?_
  refine y_scr (j := 1) (n1 := 1) hx hb hX hbl hbA hS hl rfl rfl (by omega) (by omega) dL_law_289 dL_law_290 (fun st k9 => lv_iconst (v := nI 1) hx hb dL_law_292 (by decide) k9) dL_law_293 dL_law_294 ?_
  refine y_scr (j := 2) (n1 := 1) hx hb hX hbl hbA hS hl rfl rfl (by omega) (by omega) dL_law_295 dL_law_296 (fun st k9 => lv_iconst (v := nI 2) hx hb dL_law_298 (by decide) k9) dL_law_299 dL_law_300 ?_
  refine lv_aload_n hx hb dL_law_301 rfl (lv_at hl 3 rfl) ?_
  refine y_lcall (w2 := ((oD, .inl (k 4, 1, .inr (.inr (.inr (.inl fD))))) :: W3 k a3 C n0 R n1 d th)) (vx_runSW (As := [.ref h, .int (xs (i + 1)), .int (xs (i + 2)), .ref oL]) (rest := []) ⟨hx, hb, hml, hown, hts⟩ (c_L_pause l hl9 G k h a c C n0 M ds n1 d oL fL H.size (xs (i + 1)) (xs (i + 2)) ((yD_l hD).weaken (fun _ _ _ _ => trivial)) hn hC) (vx_cwSW 4 hts gL_law_L_pause rfl rfl rfl (by decide +kernel) ⟨Nat.le_of_ble_eq_true rfl, Nat.le_of_ble_eq_true rfl⟩) ⟨yL_blind, fun U hU hW => ⟨rfl, by rw [hU], by rw [hU]; exact yP_l hP, va_K.moved hW.alike hK, yEV_at hE1 hU hW, fun z hz => va_Nc.moved hW.alike (hNC z hz)⟩⟩ rfl rfl hl.1 rfl (lv_room (Nat.le_of_ble_eq_true rfl)) dL_law_302 ⟨show cells + 3 ≤ 3132 by omega, show slots + 18 ≤ 120728 by omega⟩) hP hD hA hS (fun r fL1 H1 locs1 hp hP hS => ?_)
  obtain ⟨hp1, hp2⟩ := hp
  have hP : va_P G vwCl (WL k oL fL1 h a c ((o_pause (xs (i + 1)) (xs (i + 2)) C n0 d).2.2) n0 M ds n1 d ++ ((oD, .inl (k 4, 1, .inr (.inr (.inr (.inl fD))))) :: W3 k a3 C n0 R n1 d th)) H1 := hP
  refine lv_istore (lv' := [(6, .int r), (0, .ref b), (1, .ref h), (2, .ref (a3 0)), (3, .ref oL), (4, .ref oD), (5, .int (nI i))]) hx hb dL_law_305 hl (by decide) rfl (fun ls hl => ?_)
  have hl := lv_sub (l' := [(0, .ref b), (1, .ref h), (2, .ref (a3 0)), (3, .ref oL), (4, .ref oD), (5, .int (nI i)), (6, .int r)]) hl [1, 2, 3, 4, 5, 6, 0] rfl
  refine lv_aload_n hx hb dL_law_307 rfl (lv_at hl 2 rfl) ?_
  refine y_scr (j := 1) (n1 := 1) hx hb hX hbl hbA hS hl rfl rfl (by omega) (by omega) dL_law_308 dL_law_309 (fun st k9 => lv_iconst (v := nI 1) hx hb dL_law_311 (by decide) k9) dL_law_312 dL_law_313 ?_
  refine y_scr (j := 2) (n1 := 1) hx hb hX hbl hbA hS hl rfl rfl (by omega) (by omega) dL_law_314 dL_law_315 (fun st k9 => lv_iconst (v := nI 2) hx hb dL_law_317 (by decide) k9) dL_law_318 dL_law_319 ?_
  have hP3 : va_P G vwCl (W3 k a3 C n0 R n1 d th ++ (WL k oL fL1 h a c ((o_pause (xs (i + 1)) (xs (i + 2)) C n0 d).2.2) n0 M ds n1 d ++ [(oD, .inl (k 4, 1, .inr (.inr (.inr (.inl fD)))))])) H1 := hP.sub [22, 23, 24, 25, 26, 27, 28, 29, 30, 31, 32, 33, 34, 35, 36, 37, 0, 1, 2, 3, 4, 5, 6, 7, 8, 9, 10, 11, 12, 13, 14, 15, 16, 17, 18, 19, 20, 21] rfl
  have hD3 : va_D (fun q : Nat => s.heap.size ≤ q) (W3 k a3 C n0 R n1 d th ++ (WL k oL fL1 h a c ((o_pause (xs (i + 1)) (xs (i + 2)) C n0 d).2.2) n0 M ds n1 d ++ [(oD, .inl (k 4, 1, .inr (.inr (.inr (.inl fD)))))])) := yD (hD.sub (ws' := W3 k a3 C n0 R n1 d th ++ (WL k oL fL h a c C n0 M ds n1 d ++ [(oD, .inl (k 4, 1, .inr (.inr (.inr (.inl fD)))))])) [22, 23, 24, 25, 26, 27, 28, 29, 30, 31, 32, 33, 34, 35, 36, 37, 0, 1, 2, 3, 4, 5, 6, 7, 8, 9, 10, 11, 12, 13, 14, 15, 16, 17, 18, 19, 20, 21] (by decide) rfl) rfl
  refine y_lcall (w1 := W3 k a3 C n0 R n1 d th) (w2 := (WL k oL fL1 h a c ((o_pause (xs (i + 1)) (xs (i + 2)) C n0 d).2.2) n0 M ds n1 d ++ [(oD, .inl (k 4, 1, .inr (.inr (.inr (.inl fD)))))])) (va_runV (As := [.int (xs (i + 1)), .int (xs (i + 2))]) (rest := []) ⟨hx, hb, hml, hown, hts⟩ (c_X3_pause l G k a3 C n0 R n1 d th H1.size (xs (i + 1)) (xs (i + 2)) ((yD_l hD3).weaken (fun _ _ _ _ => trivial)) hn) (cwV 2 hts gL_law_X3_pause rfl rfl rfl (by decide +kernel) ⟨Nat.le_of_ble_eq_true rfl, Nat.le_of_ble_eq_true rfl⟩) ⟨yBs_blind, va_recv hK (yP_l hP3) (ci := 5) (q0 := 0) rfl rfl, fun U hU hW => ⟨rfl, by rw [hU], by rw [hU]; exact yP_l hP3, va_K.moved hW.alike hK⟩⟩ rfl rfl hl.1 rfl (lv_room (Nat.le_of_ble_eq_true rfl)) dL_law_320 ⟨show cells + 3 + 0 ≤ 3132 by omega, show slots + 18 + 0 ≤ 120728 by omega⟩) hP3 hD3 hA hS (fun r2 u2 H2 locs2 hq hP hS => ?_)
  have ec : ((o_pause (xs (i + 1)) (xs (i + 2)) C n0 d)).1 = ((o_pause (xs (i + 1)) (xs (i + 2)) C n0 d)).1 := rfl
  have ea : ((o_pause (xs (i + 1)) (xs (i + 2)) C n0 d)).2.1 = ((o_pause (xs (i + 1)) (xs (i + 2)) C n0 d)).2.1 := rfl
  have hP : va_P G vwCl (W3 k a3 ((o_pause (xs (i + 1)) (xs (i + 2)) C n0 d).2.2) n0 R n1 d ((o_pause (xs (i + 1)) (xs (i + 2)) C n0 d).1) ++ (WL k oL fL1 h a c ((o_pause (xs (i + 1)) (xs (i + 2)) C n0 d).2.2) n0 M ds n1 d ++ [(oD, .inl (k 4, 1, .inr (.inr (.inr (.inl fD)))))])) H2 := hP
  refine lv_istore (lv' := [(7, .int r2), (0, .ref b), (1, .ref h), (2, .ref (a3 0)), (3, .ref oL), (4, .ref oD), (5, .int (nI i)), (6, .int r)]) hx hb dL_law_323 hl (by decide) rfl (fun ls hl => ?_)
  have hl := lv_sub (l' := [(0, .ref b), (1, .ref h), (2, .ref (a3 0)), (3, .ref oL), (4, .ref oD), (5, .int (nI i)), (6, .int r), (7, .int r2)]) hl [1, 2, 3, 4, 5, 6, 7, 0] rfl
  refine lv_aload_n hx hb dL_law_325 rfl (lv_at hl 2 rfl) ?_
  refine y_roV (As := []) (rest := []) ⟨hx, hb, hml, hown, hts⟩ (c_X3_thrown l G k a3 ((o_pause (xs (i + 1)) (xs (i + 2)) C n0 d).2.2) n0 R n1 d ((o_pause (xs (i + 1)) (xs (i + 2)) C n0 d).1)) (cwV 0 hts gL_law_X3_thrown rfl rfl rfl (by decide +kernel) ⟨Nat.le_of_ble_eq_true rfl, Nat.le_of_ble_eq_true rfl⟩) hK (yP_l hP) (va_recv hK (yP_l hP) (ci := 5) (q0 := 0) rfl rfl) rfl hl.1 rfl (Nat.le_of_ble_eq_true rfl) dL_law_326 ⟨show cells + 3 + 0 ≤ 3132 by omega, show slots + 18 + 0 ≤ 120728 by omega⟩ (fun r3 hr3 => ?_)
  refine lv_iload hx hb dL_law_329 (lv_at hl 6 rfl) ?_
  refine lv_icmp_eq (tgt := 336) hx hb dL_law_331 (by decide) (fun c1 => ?_) (fun c1 => absurd (hr3.trans (ec.trans hp1.symm)) c1)
  have hPf : va_P G vwCl (WA k oL fL1 oD fD h a c a3 ((o_pause (xs (i + 1)) (xs (i + 2)) C n0 d).2.2) n0 M ds n1 d R ((o_pause (xs (i + 1)) (xs (i + 2)) C n0 d).1)) H2 := hP.sub [16, 17, 18, 19, 20, 21, 22, 23, 24, 25, 26, 27, 28, 29, 30, 31, 32, 33, 34, 35, 36, 37, 0, 1, 2, 3, 4, 5, 6, 7, 8, 9, 10, 11, 12, 13, 14, 15] rfl
  have hYf : yY ((o_pause (xs (i + 1)) (xs (i + 2)) C n0 d).2.2) n0 M ds n1 d R := yY_pause hY (xs (i + 1)) (xs (i + 2))
  have fin : W p l e room_1 s m #[Value.ref b] below meth c_ H2 locs2 (cells + 3 + 0) (slots + 18 + 0) Q (F0 m 353 ls []) := by
    refine lv_goto (tgt := 1724) hx hb dL_law_353 (by decide) ?_
    refine W.widen (k := cells + 6) (n := slots + 36) (by omega) (by omega) ?_
    exact kk hPf hYf hS (lv_sub hl [0, 1, 2, 3, 4, 5] rfl)
  refine lv_iload hx hb dL_law_336 (lv_at hl 6 rfl) ?_
  refine lv_if_ne (tgt := 353) hx hb dL_law_338 (by decide) (fun _ => fin) (fun c2 => ?_)
  have h0 := hp2 (by rw [← hp1]; exact c2)
  refine lv_aload_n hx hb dL_law_341 rfl (lv_at hl 3 rfl) ?_
  refine lv_iconst (v := 0) hx hb dL_law_342 (by decide) ?_
  refine va_lald hx hb hK hPf 0 3 rfl rfl (vp_in_nI (n := 0) (N := 1) (by decide) (by decide)) dL_law_343 ?_
  refine lv_iload hx hb dL_law_344 (lv_at hl 7 rfl) ?_
  refine lv_i2l (v := r2.toInt64) hx hb dL_law_346 rfl ?_
  refine y_lcmp hx hb (by show fL1 0 = _; rw [h0, hq, ea]) dL_law_347 ?_
  exact lv_if_eq (tgt := 353) hx hb dL_law_348 (by decide) (fun _ => fin) (fun c3 => absurd rfl c3)
set_option maxHeartbeats 4000000 in
set_option maxRecDepth 100000 in
theorem law_awaitNote {p : Program} {l : Launch} {e : Env} {s : State} {m : MethodId} {below : List Frame} {meth : Method} {c_ : Code} {b L : Nat} {xs : Nat → Int32} {G : va_G} {k : Nat → ClassId} {oL oD h : Nat} {a c a3 : Nat → Nat} (F : LF p l s m meth c_ b L xs G k) {i : Nat} (hi : i + 7 ≤ L) {cells slots : Nat} (hc : cells + 6 ≤ 3132 ∧ slots + 36 ≤ 120728) {Q : State → Prop} {fL : Nat → Int64} {fD : Nat → UInt64} {C : Nat → Nat → Int32} {n0 : Nat} {M : Nat → Nat → Int32} {ds n1 d : Nat} {R : Nat → Nat → Int32} {th : Int32} {H : Heap} {locs : List Loc} (hP : va_P G vwCl (WA k oL fL oD fD h a c a3 C n0 M ds n1 d R th) H) (hD : va_D (fun q : Nat => s.heap.size ≤ q) (WA k oL fL oD fD h a c a3 C n0 M ds n1 d R th)) (hY : yY C n0 M ds n1 d R) (hS : va_S (fun q : Nat => s.heap.size ≤ q) s.heap H locs) {ls : Array Slot} (hl : lv_has ls 9 [(0, .ref b), (1, .ref h), (2, .ref (a3 0)), (3, .ref oL), (4, .ref oD), (5, .int (nI i))]) (kk : LK p l e s m below meth c_ b G k oL oD h a c a3 i cells slots Q) : W p l e room_1 s m #[Value.ref b] below meth c_ H locs cells slots Q (F0 m 356 ls []) := by
  obtain ⟨hx, hb, hr, hml, hown, hts, hX, hbl, hL, hK, hE, hNC, hl9⟩ := F
  have hA : ∀ q : Nat, s.heap.size ≤ q → (fun q : Nat => s.heap.size ≤ q) q := fun _ h => h
  have hbA : ¬ (fun q : Nat => s.heap.size ≤ q) b := Nat.not_le.mpr hbl
  have hn := hY.1.1
  have hn1 := hY.1.2.1
  have hC := hY.1.2.2.2.1
  have hw : ∀ z, z < n0 → C 4 z = 0 ∨ C 4 z = 1 := fun z _ => hY.1.2.2.2.2.1 z
  have hE1 : yEV0 s H := yEV0_kept hE ⟨hS.1, hS.2.1, fun q hq => nomatch hq⟩ (fun q h1 h2 => absurd h1 (Nat.not_lt.mpr h2))
  refine lv_aload_n hx hb dL_law_356 rfl (lv_at hl 1 rfl) ?_
  refine y_scr (j := 1) (n1 := 1) hx hb hX hbl hbA hS hl rfl rfl (by omega) (by omega) dL_law_357 dL_law_358 (fun st k9 => lv_iconst (v := nI 1) hx hb dL_law_360 (by decide) k9) dL_law_361 dL_law_362 ?_
  refine lv_aload_n hx hb dL_law_363 rfl (lv_at hl 3 rfl) ?_
  refine y_lcall (w2 := ((oD, .inl (k 4, 1, .inr (.inr (.inr (.inl fD))))) :: W3 k a3 C n0 R n1 d th)) (vx_runSW (As := [.ref h, .int (xs (i + 1)), .ref oL]) (rest := []) ⟨hx, hb, hml, hown, hts⟩ (c_L_awaitNote l hl9 G k h a c C n0 M ds n1 d oL fL H.size (xs (i + 1)) ((yD_l hD).weaken (fun _ _ _ _ => trivial)) hn hC hw) (vx_cwSW 3 hts gL_law_L_awaitNote rfl rfl rfl (by decide +kernel) ⟨Nat.le_of_ble_eq_true rfl, Nat.le_of_ble_eq_true rfl⟩) ⟨yL_blind, fun U hU hW => ⟨rfl, by rw [hU], by rw [hU]; exact yP_l hP, va_K.moved hW.alike hK, yEV_at hE1 hU hW, fun z hz => va_Nc.moved hW.alike (hNC z hz)⟩⟩ rfl rfl hl.1 rfl (lv_room (Nat.le_of_ble_eq_true rfl)) dL_law_364 ⟨show cells + 2 ≤ 3132 by omega, show slots + 12 ≤ 120728 by omega⟩) hP hD hA hS (fun r fL1 H1 locs1 hp hP hS => ?_)
  obtain ⟨hp1, hp2⟩ := hp
  have hP : va_P G vwCl (WL k oL fL1 h a c ((o_awaitNote (xs (i + 1)) C n0).2.2) n0 M ds n1 d ++ ((oD, .inl (k 4, 1, .inr (.inr (.inr (.inl fD))))) :: W3 k a3 C n0 R n1 d th)) H1 := hP
  refine lv_istore (lv' := [(6, .int r), (0, .ref b), (1, .ref h), (2, .ref (a3 0)), (3, .ref oL), (4, .ref oD), (5, .int (nI i))]) hx hb dL_law_367 hl (by decide) rfl (fun ls hl => ?_)
  have hl := lv_sub (l' := [(0, .ref b), (1, .ref h), (2, .ref (a3 0)), (3, .ref oL), (4, .ref oD), (5, .int (nI i)), (6, .int r)]) hl [1, 2, 3, 4, 5, 6, 0] rfl
  refine lv_aload_n hx hb dL_law_369 rfl (lv_at hl 2 rfl) ?_
  refine y_scr (j := 1) (n1 := 1) hx hb hX hbl hbA hS hl rfl rfl (by omega) (by omega) dL_law_370 dL_law_371 (fun st k9 => lv_iconst (v := nI 1) hx hb dL_law_373 (by decide) k9) dL_law_374 dL_law_375 ?_
  have hP3 : va_P G vwCl (W3 k a3 C n0 R n1 d th ++ (WL k oL fL1 h a c ((o_awaitNote (xs (i + 1)) C n0).2.2) n0 M ds n1 d ++ [(oD, .inl (k 4, 1, .inr (.inr (.inr (.inl fD)))))])) H1 := hP.sub [22, 23, 24, 25, 26, 27, 28, 29, 30, 31, 32, 33, 34, 35, 36, 37, 0, 1, 2, 3, 4, 5, 6, 7, 8, 9, 10, 11, 12, 13, 14, 15, 16, 17, 18, 19, 20, 21] rfl
  have hD3 : va_D (fun q : Nat => s.heap.size ≤ q) (W3 k a3 C n0 R n1 d th ++ (WL k oL fL1 h a c ((o_awaitNote (xs (i + 1)) C n0).2.2) n0 M ds n1 d ++ [(oD, .inl (k 4, 1, .inr (.inr (.inr (.inl fD)))))])) := yD (hD.sub (ws' := W3 k a3 C n0 R n1 d th ++ (WL k oL fL h a c C n0 M ds n1 d ++ [(oD, .inl (k 4, 1, .inr (.inr (.inr (.inl fD)))))])) [22, 23, 24, 25, 26, 27, 28, 29, 30, 31, 32, 33, 34, 35, 36, 37, 0, 1, 2, 3, 4, 5, 6, 7, 8, 9, 10, 11, 12, 13, 14, 15, 16, 17, 18, 19, 20, 21] (by decide) rfl) rfl
  refine y_lcall (w1 := W3 k a3 C n0 R n1 d th) (w2 := (WL k oL fL1 h a c ((o_awaitNote (xs (i + 1)) C n0).2.2) n0 M ds n1 d ++ [(oD, .inl (k 4, 1, .inr (.inr (.inr (.inl fD)))))])) (va_runV (As := [.int (xs (i + 1))]) (rest := []) ⟨hx, hb, hml, hown, hts⟩ (c_X3_awaitNote l G k a3 C n0 R n1 d th H1.size (xs (i + 1)) ((yD_l hD3).weaken (fun _ _ _ _ => trivial)) hn hw) (cwV 1 hts gL_law_X3_awaitNote rfl rfl rfl (by decide +kernel) ⟨Nat.le_of_ble_eq_true rfl, Nat.le_of_ble_eq_true rfl⟩) ⟨yBs_blind, va_recv hK (yP_l hP3) (ci := 5) (q0 := 0) rfl rfl, fun U hU hW => ⟨rfl, by rw [hU], by rw [hU]; exact yP_l hP3, va_K.moved hW.alike hK⟩⟩ rfl rfl hl.1 rfl (lv_room (Nat.le_of_ble_eq_true rfl)) dL_law_376 ⟨show cells + 2 + 0 ≤ 3132 by omega, show slots + 12 + 0 ≤ 120728 by omega⟩) hP3 hD3 hA hS (fun r2 u2 H2 locs2 hq hP hS => ?_)
  have ec : ((o_awaitNote (xs (i + 1)) C n0)).1 = ((o_awaitNote (xs (i + 1)) C n0)).1 := rfl
  have ea : ((o_awaitNote (xs (i + 1)) C n0)).2.1 = ((o_awaitNote (xs (i + 1)) C n0)).2.1 := rfl
  have hP : va_P G vwCl (W3 k a3 ((o_awaitNote (xs (i + 1)) C n0).2.2) n0 R n1 d ((o_awaitNote (xs (i + 1)) C n0).1) ++ (WL k oL fL1 h a c ((o_awaitNote (xs (i + 1)) C n0).2.2) n0 M ds n1 d ++ [(oD, .inl (k 4, 1, .inr (.inr (.inr (.inl fD)))))])) H2 := hP
  refine lv_istore (lv' := [(7, .int r2), (0, .ref b), (1, .ref h), (2, .ref (a3 0)), (3, .ref oL), (4, .ref oD), (5, .int (nI i)), (6, .int r)]) hx hb dL_law_379 hl (by decide) rfl (fun ls hl => ?_)
  have hl := lv_sub (l' := [(0, .ref b), (1, .ref h), (2, .ref (a3 0)), (3, .ref oL), (4, .ref oD), (5, .int (nI i)), (6, .int r), (7, .int r2)]) hl [1, 2, 3, 4, 5, 6, 7, 0] rfl
  refine lv_aload_n hx hb dL_law_381 rfl (lv_at hl 2 rfl) ?_
  refine y_roV (As := []) (rest := []) ⟨hx, hb, hml, hown, hts⟩ (c_X3_thrown l G k a3 ((o_awaitNote (xs (i + 1)) C n0).2.2) n0 R n1 d ((o_awaitNote (xs (i + 1)) C n0).1)) (cwV 0 hts gL_law_X3_thrown rfl rfl rfl (by decide +kernel) ⟨Nat.le_of_ble_eq_true rfl, Nat.le_of_ble_eq_true rfl⟩) hK (yP_l hP) (va_recv hK (yP_l hP) (ci := 5) (q0 := 0) rfl rfl) rfl hl.1 rfl (Nat.le_of_ble_eq_true rfl) dL_law_382 ⟨show cells + 2 + 0 ≤ 3132 by omega, show slots + 12 + 0 ≤ 120728 by omega⟩ (fun r3 hr3 => ?_)
  refine lv_iload hx hb dL_law_385 (lv_at hl 6 rfl) ?_
  refine lv_icmp_eq (tgt := 392) hx hb dL_law_387 (by decide) (fun c1 => ?_) (fun c1 => absurd (hr3.trans (ec.trans hp1.symm)) c1)
  have hPf : va_P G vwCl (WA k oL fL1 oD fD h a c a3 ((o_awaitNote (xs (i + 1)) C n0).2.2) n0 M ds n1 d R ((o_awaitNote (xs (i + 1)) C n0).1)) H2 := hP.sub [16, 17, 18, 19, 20, 21, 22, 23, 24, 25, 26, 27, 28, 29, 30, 31, 32, 33, 34, 35, 36, 37, 0, 1, 2, 3, 4, 5, 6, 7, 8, 9, 10, 11, 12, 13, 14, 15] rfl
  have hYf : yY ((o_awaitNote (xs (i + 1)) C n0).2.2) n0 M ds n1 d R := yY_awaitNote hY (xs (i + 1))
  have fin : W p l e room_1 s m #[Value.ref b] below meth c_ H2 locs2 (cells + 2 + 0) (slots + 12 + 0) Q (F0 m 416 ls []) := by
    refine lv_goto (tgt := 1724) hx hb dL_law_416 (by decide) ?_
    refine W.widen (k := cells + 6) (n := slots + 36) (by omega) (by omega) ?_
    exact kk hPf hYf hS (lv_sub hl [0, 1, 2, 3, 4, 5] rfl)
  refine lv_iload hx hb dL_law_392 (lv_at hl 6 rfl) ?_
  refine lv_if_ne (tgt := 416) hx hb dL_law_394 (by decide) (fun _ => fin) (fun c2 => ?_)
  have h0 := hp2 (by rw [← hp1]; exact c2)
  refine lv_aload_n hx hb dL_law_397 rfl (lv_at hl 3 rfl) ?_
  refine lv_iconst (v := 0) hx hb dL_law_398 (by decide) ?_
  refine va_lald hx hb hK hPf 0 3 rfl rfl (vp_in_nI (n := 0) (N := 1) (by decide) (by decide)) dL_law_399 ?_
  refine lv_iload hx hb dL_law_400 (lv_at hl 7 rfl) ?_
  refine lv_if_eq (tgt := 409) hx hb dL_law_402 (by decide) (fun c4 => ?_) (fun c4 => ?_)
  · refine lv_lconst (v := 0) hx hb dL_law_409 (by decide) ?_
    refine y_lcmp hx hb (by show fL1 0 = _; rw [h0, if_pos (by rw [← ea, ← hq]; exact c4)]) dL_law_410 ?_
    exact lv_if_eq (tgt := 416) hx hb dL_law_411 (by decide) (fun _ => fin) (fun c3 => absurd rfl c3)
  · refine lv_lconst (v := 1) hx hb dL_law_405 (by decide) ?_
    refine lv_goto (tgt := 410) hx hb dL_law_406 (by decide) ?_
    refine y_lcmp hx hb (by show fL1 0 = _; rw [h0, if_neg (fun h9 => c4 (by rw [hq, ea]; exact h9))]) dL_law_410 ?_
    exact lv_if_eq (tgt := 416) hx hb dL_law_411 (by decide) (fun _ => fin) (fun c3 => absurd rfl c3)
set_option maxHeartbeats 4000000 in
set_option maxRecDepth 100000 in
theorem law_letters {p : Program} {l : Launch} {e : Env} {s : State} {m : MethodId} {below : List Frame} {meth : Method} {c_ : Code} {b L : Nat} {xs : Nat → Int32} {G : va_G} {k : Nat → ClassId} {oL oD h : Nat} {a c a3 : Nat → Nat} (F : LF p l s m meth c_ b L xs G k) {i : Nat} (hi : i + 7 ≤ L) {cells slots : Nat} (hc : cells + 6 ≤ 3132 ∧ slots + 36 ≤ 120728) {Q : State → Prop} {fL : Nat → Int64} {fD : Nat → UInt64} {C : Nat → Nat → Int32} {n0 : Nat} {M : Nat → Nat → Int32} {ds n1 d : Nat} {R : Nat → Nat → Int32} {th : Int32} {H : Heap} {locs : List Loc} (hP : va_P G vwCl (WA k oL fL oD fD h a c a3 C n0 M ds n1 d R th) H) (hD : va_D (fun q : Nat => s.heap.size ≤ q) (WA k oL fL oD fD h a c a3 C n0 M ds n1 d R th)) (hY : yY C n0 M ds n1 d R) (hS : va_S (fun q : Nat => s.heap.size ≤ q) s.heap H locs) {ls : Array Slot} (hl : lv_has ls 9 [(0, .ref b), (1, .ref h), (2, .ref (a3 0)), (3, .ref oL), (4, .ref oD), (5, .int (nI i))]) (kk : LK p l e s m below meth c_ b G k oL oD h a c a3 i cells slots Q) : W p l e room_1 s m #[Value.ref b] below meth c_ H locs cells slots Q (F0 m 419 ls []) := by
  obtain ⟨hx, hb, hr, hml, hown, hts, hX, hbl, hL, hK, hE, hNC, hl9⟩ := F
  have hA : ∀ q : Nat, s.heap.size ≤ q → (fun q : Nat => s.heap.size ≤ q) q := fun _ h => h
  have hbA : ¬ (fun q : Nat => s.heap.size ≤ q) b := Nat.not_le.mpr hbl
  have hn := hY.1.1
  have hn1 := hY.1.2.1
  have hC := hY.1.2.2.2.1
  have hw : ∀ z, z < n0 → C 4 z = 0 ∨ C 4 z = 1 := fun z _ => hY.1.2.2.2.2.1 z
  have hE1 : yEV0 s H := yEV0_kept hE ⟨hS.1, hS.2.1, fun q hq => nomatch hq⟩ (fun q h1 h2 => absurd h1 (Nat.not_lt.mpr h2))
  refine lv_aload_n hx hb dL_law_419 rfl (lv_at hl 1 rfl) ?_
  refine y_scr (j := 1) (n1 := 1) hx hb hX hbl hbA hS hl rfl rfl (by omega) (by omega) dL_law_420 dL_law_421 (fun st k9 => lv_iconst (v := nI 1) hx hb dL_law_423 (by decide) k9) dL_law_424 dL_law_425 ?_
  refine lv_aload_n hx hb dL_law_426 rfl (lv_at hl 3 rfl) ?_
  refine y_lcall (w2 := ((oD, .inl (k 4, 1, .inr (.inr (.inr (.inl fD))))) :: W3 k a3 C n0 R n1 d th)) (vx_runSW (As := [.ref h, .int (xs (i + 1)), .ref oL]) (rest := []) ⟨hx, hb, hml, hown, hts⟩ (c_L_letters l hl9 G k h a c C n0 M ds n1 d oL fL H.size (xs (i + 1)) ((yD_l hD).weaken (fun _ _ _ _ => trivial)) hn) (vx_cwSW 3 hts gL_law_L_letters rfl rfl rfl (by decide +kernel) ⟨Nat.le_of_ble_eq_true rfl, Nat.le_of_ble_eq_true rfl⟩) ⟨yL_blind, fun U hU hW => ⟨rfl, by rw [hU], by rw [hU]; exact yP_l hP, va_K.moved hW.alike hK, yEV_at hE1 hU hW, fun z hz => va_Nc.moved hW.alike (hNC z hz)⟩⟩ rfl rfl hl.1 rfl (lv_room (Nat.le_of_ble_eq_true rfl)) dL_law_427 ⟨show cells + 1 ≤ 3132 by omega, show slots + 6 ≤ 120728 by omega⟩) hP hD hA hS (fun r fL1 H1 locs1 hp hP hS => ?_)
  obtain ⟨hp1, hp2⟩ := hp
  have hP : va_P G vwCl (WL k oL fL1 h a c C n0 M ds n1 d ++ ((oD, .inl (k 4, 1, .inr (.inr (.inr (.inl fD))))) :: W3 k a3 C n0 R n1 d th)) H1 := hP
  refine lv_istore (lv' := [(6, .int r), (0, .ref b), (1, .ref h), (2, .ref (a3 0)), (3, .ref oL), (4, .ref oD), (5, .int (nI i))]) hx hb dL_law_430 hl (by decide) rfl (fun ls hl => ?_)
  have hl := lv_sub (l' := [(0, .ref b), (1, .ref h), (2, .ref (a3 0)), (3, .ref oL), (4, .ref oD), (5, .int (nI i)), (6, .int r)]) hl [1, 2, 3, 4, 5, 6, 0] rfl
  refine lv_aload_n hx hb dL_law_432 rfl (lv_at hl 2 rfl) ?_
  refine y_scr (j := 1) (n1 := 1) hx hb hX hbl hbA hS hl rfl rfl (by omega) (by omega) dL_law_433 dL_law_434 (fun st k9 => lv_iconst (v := nI 1) hx hb dL_law_436 (by decide) k9) dL_law_437 dL_law_438 ?_
  have hP3 : va_P G vwCl (W3 k a3 C n0 R n1 d th ++ (WL k oL fL1 h a c C n0 M ds n1 d ++ [(oD, .inl (k 4, 1, .inr (.inr (.inr (.inl fD)))))])) H1 := hP.sub [22, 23, 24, 25, 26, 27, 28, 29, 30, 31, 32, 33, 34, 35, 36, 37, 0, 1, 2, 3, 4, 5, 6, 7, 8, 9, 10, 11, 12, 13, 14, 15, 16, 17, 18, 19, 20, 21] rfl
  have hD3 : va_D (fun q : Nat => s.heap.size ≤ q) (W3 k a3 C n0 R n1 d th ++ (WL k oL fL1 h a c C n0 M ds n1 d ++ [(oD, .inl (k 4, 1, .inr (.inr (.inr (.inl fD)))))])) := yD (hD.sub (ws' := W3 k a3 C n0 R n1 d th ++ (WL k oL fL h a c C n0 M ds n1 d ++ [(oD, .inl (k 4, 1, .inr (.inr (.inr (.inl fD)))))])) [22, 23, 24, 25, 26, 27, 28, 29, 30, 31, 32, 33, 34, 35, 36, 37, 0, 1, 2, 3, 4, 5, 6, 7, 8, 9, 10, 11, 12, 13, 14, 15, 16, 17, 18, 19, 20, 21] (by decide) rfl) rfl
  refine y_lcall (w1 := W3 k a3 C n0 R n1 d th) (w2 := (WL k oL fL1 h a c C n0 M ds n1 d ++ [(oD, .inl (k 4, 1, .inr (.inr (.inr (.inl fD)))))])) (va_runV (As := [.int (xs (i + 1))]) (rest := []) ⟨hx, hb, hml, hown, hts⟩ (c_X3_letters l G k a3 C n0 R n1 d th H1.size (xs (i + 1)) ((yD_l hD3).weaken (fun _ _ _ _ => trivial)) hn) (cwV 1 hts gL_law_X3_letters rfl rfl rfl (by decide +kernel) ⟨Nat.le_of_ble_eq_true rfl, Nat.le_of_ble_eq_true rfl⟩) ⟨yBs_blind, va_recv hK (yP_l hP3) (ci := 5) (q0 := 0) rfl rfl, fun U hU hW => ⟨rfl, by rw [hU], by rw [hU]; exact yP_l hP3, va_K.moved hW.alike hK⟩⟩ rfl rfl hl.1 rfl (lv_room (Nat.le_of_ble_eq_true rfl)) dL_law_439 ⟨show cells + 1 + 0 ≤ 3132 by omega, show slots + 6 + 0 ≤ 120728 by omega⟩) hP3 hD3 hA hS (fun r2 u2 H2 locs2 hq hP hS => ?_)
  have ec : ((o_letters (xs (i + 1)) C n0)).1 = ((o_letters (xs (i + 1)) C n0)).1 := rfl
  have ea : ((o_letters (xs (i + 1)) C n0)).2 = ((o_letters (xs (i + 1)) C n0)).2 := rfl
  have hP : va_P G vwCl (W3 k a3 C n0 R n1 d ((o_letters (xs (i + 1)) C n0).1) ++ (WL k oL fL1 h a c C n0 M ds n1 d ++ [(oD, .inl (k 4, 1, .inr (.inr (.inr (.inl fD)))))])) H2 := hP
  refine lv_istore (lv' := [(7, .int r2), (0, .ref b), (1, .ref h), (2, .ref (a3 0)), (3, .ref oL), (4, .ref oD), (5, .int (nI i)), (6, .int r)]) hx hb dL_law_442 hl (by decide) rfl (fun ls hl => ?_)
  have hl := lv_sub (l' := [(0, .ref b), (1, .ref h), (2, .ref (a3 0)), (3, .ref oL), (4, .ref oD), (5, .int (nI i)), (6, .int r), (7, .int r2)]) hl [1, 2, 3, 4, 5, 6, 7, 0] rfl
  refine lv_aload_n hx hb dL_law_444 rfl (lv_at hl 2 rfl) ?_
  refine y_roV (As := []) (rest := []) ⟨hx, hb, hml, hown, hts⟩ (c_X3_thrown l G k a3 C n0 R n1 d ((o_letters (xs (i + 1)) C n0).1)) (cwV 0 hts gL_law_X3_thrown rfl rfl rfl (by decide +kernel) ⟨Nat.le_of_ble_eq_true rfl, Nat.le_of_ble_eq_true rfl⟩) hK (yP_l hP) (va_recv hK (yP_l hP) (ci := 5) (q0 := 0) rfl rfl) rfl hl.1 rfl (Nat.le_of_ble_eq_true rfl) dL_law_445 ⟨show cells + 1 + 0 ≤ 3132 by omega, show slots + 6 + 0 ≤ 120728 by omega⟩ (fun r3 hr3 => ?_)
  refine lv_iload hx hb dL_law_448 (lv_at hl 6 rfl) ?_
  refine lv_icmp_eq (tgt := 455) hx hb dL_law_450 (by decide) (fun c1 => ?_) (fun c1 => absurd (hr3.trans (ec.trans hp1.symm)) c1)
  have hPf : va_P G vwCl (WA k oL fL1 oD fD h a c a3 C n0 M ds n1 d R ((o_letters (xs (i + 1)) C n0).1)) H2 := hP.sub [16, 17, 18, 19, 20, 21, 22, 23, 24, 25, 26, 27, 28, 29, 30, 31, 32, 33, 34, 35, 36, 37, 0, 1, 2, 3, 4, 5, 6, 7, 8, 9, 10, 11, 12, 13, 14, 15] rfl
  have hYf : yY C n0 M ds n1 d R := hY
  have fin : W p l e room_1 s m #[Value.ref b] below meth c_ H2 locs2 (cells + 1 + 0) (slots + 6 + 0) Q (F0 m 472 ls []) := by
    refine lv_goto (tgt := 1724) hx hb dL_law_472 (by decide) ?_
    refine W.widen (k := cells + 6) (n := slots + 36) (by omega) (by omega) ?_
    exact kk hPf hYf hS (lv_sub hl [0, 1, 2, 3, 4, 5] rfl)
  refine lv_iload hx hb dL_law_455 (lv_at hl 6 rfl) ?_
  refine lv_if_ne (tgt := 472) hx hb dL_law_457 (by decide) (fun _ => fin) (fun c2 => ?_)
  have h0 := hp2 (by rw [← hp1]; exact c2)
  refine lv_aload_n hx hb dL_law_460 rfl (lv_at hl 3 rfl) ?_
  refine lv_iconst (v := 0) hx hb dL_law_461 (by decide) ?_
  refine va_lald hx hb hK hPf 0 3 rfl rfl (vp_in_nI (n := 0) (N := 1) (by decide) (by decide)) dL_law_462 ?_
  refine lv_iload hx hb dL_law_463 (lv_at hl 7 rfl) ?_
  refine lv_i2l (v := r2.toInt64) hx hb dL_law_465 rfl ?_
  refine y_lcmp hx hb (by show fL1 0 = _; rw [h0, hq, ea]) dL_law_466 ?_
  exact lv_if_eq (tgt := 472) hx hb dL_law_467 (by decide) (fun _ => fin) (fun c3 => absurd rfl c3)
set_option maxHeartbeats 4000000 in
set_option maxRecDepth 100000 in
theorem law_lettersByMessages {p : Program} {l : Launch} {e : Env} {s : State} {m : MethodId} {below : List Frame} {meth : Method} {c_ : Code} {b L : Nat} {xs : Nat → Int32} {G : va_G} {k : Nat → ClassId} {oL oD h : Nat} {a c a3 : Nat → Nat} (F : LF p l s m meth c_ b L xs G k) {i : Nat} (hi : i + 7 ≤ L) {cells slots : Nat} (hc : cells + 6 ≤ 3132 ∧ slots + 36 ≤ 120728) {Q : State → Prop} {fL : Nat → Int64} {fD : Nat → UInt64} {C : Nat → Nat → Int32} {n0 : Nat} {M : Nat → Nat → Int32} {ds n1 d : Nat} {R : Nat → Nat → Int32} {th : Int32} {H : Heap} {locs : List Loc} (hP : va_P G vwCl (WA k oL fL oD fD h a c a3 C n0 M ds n1 d R th) H) (hD : va_D (fun q : Nat => s.heap.size ≤ q) (WA k oL fL oD fD h a c a3 C n0 M ds n1 d R th)) (hY : yY C n0 M ds n1 d R) (hS : va_S (fun q : Nat => s.heap.size ≤ q) s.heap H locs) {ls : Array Slot} (hl : lv_has ls 9 [(0, .ref b), (1, .ref h), (2, .ref (a3 0)), (3, .ref oL), (4, .ref oD), (5, .int (nI i))]) (kk : LK p l e s m below meth c_ b G k oL oD h a c a3 i cells slots Q) : W p l e room_1 s m #[Value.ref b] below meth c_ H locs cells slots Q (F0 m 475 ls []) := by
  obtain ⟨hx, hb, hr, hml, hown, hts, hX, hbl, hL, hK, hE, hNC, hl9⟩ := F
  have hA : ∀ q : Nat, s.heap.size ≤ q → (fun q : Nat => s.heap.size ≤ q) q := fun _ h => h
  have hbA : ¬ (fun q : Nat => s.heap.size ≤ q) b := Nat.not_le.mpr hbl
  have hn := hY.1.1
  have hn1 := hY.1.2.1
  have hC := hY.1.2.2.2.1
  have hw : ∀ z, z < n0 → C 4 z = 0 ∨ C 4 z = 1 := fun z _ => hY.1.2.2.2.2.1 z
  have hds : ds ≤ 80 := Nat.le_trans (yI_ds hY.1) hn1
  have hE1 : yEV0 s H := yEV0_kept hE ⟨hS.1, hS.2.1, fun q hq => nomatch hq⟩ (fun q h1 h2 => absurd h1 (Nat.not_lt.mpr h2))
  refine lv_aload_n hx hb dL_law_475 rfl (lv_at hl 1 rfl) ?_
  refine y_scr (j := 1) (n1 := 1) hx hb hX hbl hbA hS hl rfl rfl (by omega) (by omega) dL_law_476 dL_law_477 (fun st k9 => lv_iconst (v := nI 1) hx hb dL_law_479 (by decide) k9) dL_law_480 dL_law_481 ?_
  refine lv_aload_n hx hb dL_law_482 rfl (lv_at hl 3 rfl) ?_
  refine y_lcall (w2 := ((oD, .inl (k 4, 1, .inr (.inr (.inr (.inl fD))))) :: W3 k a3 C n0 R n1 d th)) (vx_runSW (As := [.ref h, .int (xs (i + 1)), .ref oL]) (rest := []) ⟨hx, hb, hml, hown, hts⟩ (c_L_lettersByMessages l hl9 G k h a c C n0 M ds n1 d oL fL H.size (xs (i + 1)) ((yD_l hD).weaken (fun _ _ _ _ => trivial)) hn hn1 hds) (vx_cwSW 3 hts gL_law_L_lettersByMessages rfl rfl rfl (by decide +kernel) ⟨Nat.le_of_ble_eq_true rfl, Nat.le_of_ble_eq_true rfl⟩) ⟨yL_blind, fun U hU hW => ⟨rfl, by rw [hU], by rw [hU]; exact yP_l hP, va_K.moved hW.alike hK, yEV_at hE1 hU hW, fun z hz => va_Nc.moved hW.alike (hNC z hz)⟩⟩ rfl rfl hl.1 rfl (lv_room (Nat.le_of_ble_eq_true rfl)) dL_law_483 ⟨show cells + 1 ≤ 3132 by omega, show slots + 6 ≤ 120728 by omega⟩) hP hD hA hS (fun r fL1 H1 locs1 hp hP hS => ?_)
  obtain ⟨hp1, hp2⟩ := hp
  have hP : va_P G vwCl (WL k oL fL1 h a c C n0 M ds n1 d ++ ((oD, .inl (k 4, 1, .inr (.inr (.inr (.inl fD))))) :: W3 k a3 C n0 R n1 d th)) H1 := hP
  refine lv_istore (lv' := [(6, .int r), (0, .ref b), (1, .ref h), (2, .ref (a3 0)), (3, .ref oL), (4, .ref oD), (5, .int (nI i))]) hx hb dL_law_486 hl (by decide) rfl (fun ls hl => ?_)
  have hl := lv_sub (l' := [(0, .ref b), (1, .ref h), (2, .ref (a3 0)), (3, .ref oL), (4, .ref oD), (5, .int (nI i)), (6, .int r)]) hl [1, 2, 3, 4, 5, 6, 0] rfl
  refine lv_aload_n hx hb dL_law_488 rfl (lv_at hl 2 rfl) ?_
  refine y_scr (j := 1) (n1 := 1) hx hb hX hbl hbA hS hl rfl rfl (by omega) (by omega) dL_law_489 dL_law_490 (fun st k9 => lv_iconst (v := nI 1) hx hb dL_law_492 (by decide) k9) dL_law_493 dL_law_494 ?_
  have hP3 : va_P G vwCl (W3 k a3 C n0 R n1 d th ++ (WL k oL fL1 h a c C n0 M ds n1 d ++ [(oD, .inl (k 4, 1, .inr (.inr (.inr (.inl fD)))))])) H1 := hP.sub [22, 23, 24, 25, 26, 27, 28, 29, 30, 31, 32, 33, 34, 35, 36, 37, 0, 1, 2, 3, 4, 5, 6, 7, 8, 9, 10, 11, 12, 13, 14, 15, 16, 17, 18, 19, 20, 21] rfl
  have hD3 : va_D (fun q : Nat => s.heap.size ≤ q) (W3 k a3 C n0 R n1 d th ++ (WL k oL fL1 h a c C n0 M ds n1 d ++ [(oD, .inl (k 4, 1, .inr (.inr (.inr (.inl fD)))))])) := yD (hD.sub (ws' := W3 k a3 C n0 R n1 d th ++ (WL k oL fL h a c C n0 M ds n1 d ++ [(oD, .inl (k 4, 1, .inr (.inr (.inr (.inl fD)))))])) [22, 23, 24, 25, 26, 27, 28, 29, 30, 31, 32, 33, 34, 35, 36, 37, 0, 1, 2, 3, 4, 5, 6, 7, 8, 9, 10, 11, 12, 13, 14, 15, 16, 17, 18, 19, 20, 21] (by decide) rfl) rfl
  refine y_lcall (w1 := W3 k a3 C n0 R n1 d th) (w2 := (WL k oL fL1 h a c C n0 M ds n1 d ++ [(oD, .inl (k 4, 1, .inr (.inr (.inr (.inl fD)))))])) (va_runV (As := [.int (xs (i + 1))]) (rest := []) ⟨hx, hb, hml, hown, hts⟩ (c_X3_lettersByMessages l G k a3 C n0 R n1 d th H1.size (xs (i + 1)) ((yD_l hD3).weaken (fun _ _ _ _ => trivial)) hn) (cwV 1 hts gL_law_X3_lettersByMessages rfl rfl rfl (by decide +kernel) ⟨Nat.le_of_ble_eq_true rfl, Nat.le_of_ble_eq_true rfl⟩) ⟨yBs_blind, va_recv hK (yP_l hP3) (ci := 5) (q0 := 0) rfl rfl, fun U hU hW => ⟨rfl, by rw [hU], by rw [hU]; exact yP_l hP3, va_K.moved hW.alike hK⟩⟩ rfl rfl hl.1 rfl (lv_room (Nat.le_of_ble_eq_true rfl)) dL_law_495 ⟨show cells + 1 + 0 ≤ 3132 by omega, show slots + 6 + 0 ≤ 120728 by omega⟩) hP3 hD3 hA hS (fun r2 u2 H2 locs2 hq hP hS => ?_)
  have hq9 : (o_letters (xs (i + 1)) C n0) = (o_lbm (xs (i + 1)) C n0 M ds n1) := yY_lbm hY (xs (i + 1))
  have ec : ((o_letters (xs (i + 1)) C n0)).1 = ((o_lbm (xs (i + 1)) C n0 M ds n1)).1 := congrArg Prod.fst hq9
  have ea : ((o_letters (xs (i + 1)) C n0)).2 = ((o_lbm (xs (i + 1)) C n0 M ds n1)).2 := congrArg (fun z => z.2) hq9
  have hP : va_P G vwCl (W3 k a3 C n0 R n1 d ((o_letters (xs (i + 1)) C n0).1) ++ (WL k oL fL1 h a c C n0 M ds n1 d ++ [(oD, .inl (k 4, 1, .inr (.inr (.inr (.inl fD)))))])) H2 := hP
  refine lv_istore (lv' := [(7, .int r2), (0, .ref b), (1, .ref h), (2, .ref (a3 0)), (3, .ref oL), (4, .ref oD), (5, .int (nI i)), (6, .int r)]) hx hb dL_law_498 hl (by decide) rfl (fun ls hl => ?_)
  have hl := lv_sub (l' := [(0, .ref b), (1, .ref h), (2, .ref (a3 0)), (3, .ref oL), (4, .ref oD), (5, .int (nI i)), (6, .int r), (7, .int r2)]) hl [1, 2, 3, 4, 5, 6, 7, 0] rfl
  refine lv_aload_n hx hb dL_law_500 rfl (lv_at hl 2 rfl) ?_
  refine y_roV (As := []) (rest := []) ⟨hx, hb, hml, hown, hts⟩ (c_X3_thrown l G k a3 C n0 R n1 d ((o_letters (xs (i + 1)) C n0).1)) (cwV 0 hts gL_law_X3_thrown rfl rfl rfl (by decide +kernel) ⟨Nat.le_of_ble_eq_true rfl, Nat.le_of_ble_eq_true rfl⟩) hK (yP_l hP) (va_recv hK (yP_l hP) (ci := 5) (q0 := 0) rfl rfl) rfl hl.1 rfl (Nat.le_of_ble_eq_true rfl) dL_law_501 ⟨show cells + 1 + 0 ≤ 3132 by omega, show slots + 6 + 0 ≤ 120728 by omega⟩ (fun r3 hr3 => ?_)
  refine lv_iload hx hb dL_law_504 (lv_at hl 6 rfl) ?_
  refine lv_icmp_eq (tgt := 511) hx hb dL_law_506 (by decide) (fun c1 => ?_) (fun c1 => absurd (hr3.trans (ec.trans hp1.symm)) c1)
  have hPf : va_P G vwCl (WA k oL fL1 oD fD h a c a3 C n0 M ds n1 d R ((o_letters (xs (i + 1)) C n0).1)) H2 := hP.sub [16, 17, 18, 19, 20, 21, 22, 23, 24, 25, 26, 27, 28, 29, 30, 31, 32, 33, 34, 35, 36, 37, 0, 1, 2, 3, 4, 5, 6, 7, 8, 9, 10, 11, 12, 13, 14, 15] rfl
  have hYf : yY C n0 M ds n1 d R := hY
  have fin : W p l e room_1 s m #[Value.ref b] below meth c_ H2 locs2 (cells + 1 + 0) (slots + 6 + 0) Q (F0 m 528 ls []) := by
    refine lv_goto (tgt := 1724) hx hb dL_law_528 (by decide) ?_
    refine W.widen (k := cells + 6) (n := slots + 36) (by omega) (by omega) ?_
    exact kk hPf hYf hS (lv_sub hl [0, 1, 2, 3, 4, 5] rfl)
  refine lv_iload hx hb dL_law_511 (lv_at hl 6 rfl) ?_
  refine lv_if_ne (tgt := 528) hx hb dL_law_513 (by decide) (fun _ => fin) (fun c2 => ?_)
  have h0 := hp2 (by rw [← hp1]; exact c2)
  refine lv_aload_n hx hb dL_law_516 rfl (lv_at hl 3 rfl) ?_
  refine lv_iconst (v := 0) hx hb dL_law_517 (by decide) ?_
  refine va_lald hx hb hK hPf 0 3 rfl rfl (vp_in_nI (n := 0) (N := 1) (by decide) (by decide)) dL_law_518 ?_
  refine lv_iload hx hb dL_law_519 (lv_at hl 7 rfl) ?_
  refine lv_i2l (v := r2.toInt64) hx hb dL_law_521 rfl ?_
  refine y_lcmp hx hb (by show fL1 0 = _; rw [h0, hq, ea]) dL_law_522 ?_
  exact lv_if_eq (tgt := 528) hx hb dL_law_523 (by decide) (fun _ => fin) (fun c3 => absurd rfl c3)
set_option maxHeartbeats 4000000 in
set_option maxRecDepth 100000 in
theorem law_nextReminder {p : Program} {l : Launch} {e : Env} {s : State} {m : MethodId} {below : List Frame} {meth : Method} {c_ : Code} {b L : Nat} {xs : Nat → Int32} {G : va_G} {k : Nat → ClassId} {oL oD h : Nat} {a c a3 : Nat → Nat} (F : LF p l s m meth c_ b L xs G k) {i : Nat} (hi : i + 7 ≤ L) {cells slots : Nat} (hc : cells + 6 ≤ 3132 ∧ slots + 36 ≤ 120728) {Q : State → Prop} {fL : Nat → Int64} {fD : Nat → UInt64} {C : Nat → Nat → Int32} {n0 : Nat} {M : Nat → Nat → Int32} {ds n1 d : Nat} {R : Nat → Nat → Int32} {th : Int32} {H : Heap} {locs : List Loc} (hP : va_P G vwCl (WA k oL fL oD fD h a c a3 C n0 M ds n1 d R th) H) (hD : va_D (fun q : Nat => s.heap.size ≤ q) (WA k oL fL oD fD h a c a3 C n0 M ds n1 d R th)) (hY : yY C n0 M ds n1 d R) (hS : va_S (fun q : Nat => s.heap.size ≤ q) s.heap H locs) {ls : Array Slot} (hl : lv_has ls 9 [(0, .ref b), (1, .ref h), (2, .ref (a3 0)), (3, .ref oL), (4, .ref oD), (5, .int (nI i))]) (kk : LK p l e s m below meth c_ b G k oL oD h a c a3 i cells slots Q) : W p l e room_1 s m #[Value.ref b] below meth c_ H locs cells slots Q (F0 m 531 ls []) := by
  obtain ⟨hx, hb, hr, hml, hown, hts, hX, hbl, hL, hK, hE, hNC, hl9⟩ := F
  have hA : ∀ q : Nat, s.heap.size ≤ q → (fun q : Nat => s.heap.size ≤ q) q := fun _ h => h
  have hbA : ¬ (fun q : Nat => s.heap.size ≤ q) b := Nat.not_le.mpr hbl
  have hn := hY.1.1
  have hn1 := hY.1.2.1
  have hC := hY.1.2.2.2.1
  have hw : ∀ z, z < n0 → C 4 z = 0 ∨ C 4 z = 1 := fun z _ => hY.1.2.2.2.2.1 z
  have hE1 : yEV0 s H := yEV0_kept hE ⟨hS.1, hS.2.1, fun q hq => nomatch hq⟩ (fun q h1 h2 => absurd h1 (Nat.not_lt.mpr h2))
  refine lv_aload_n hx hb dL_law_531 rfl (lv_at hl 1 rfl) ?_
  refine y_scr (j := 1) (n1 := 1) hx hb hX hbl hbA hS hl rfl rfl (by omega) (by omega) dL_law_532 dL_law_533 (fun st k9 => lv_iconst (v := nI 1) hx hb dL_law_535 (by decide) k9) dL_law_536 dL_law_537 ?_
  refine lv_aload_n hx hb dL_law_538 rfl (lv_at hl 3 rfl) ?_
  refine y_lcall (w2 := ((oD, .inl (k 4, 1, .inr (.inr (.inr (.inl fD))))) :: W3 k a3 C n0 R n1 d th)) (vx_runSW (As := [.ref h, .int (xs (i + 1)), .ref oL]) (rest := []) ⟨hx, hb, hml, hown, hts⟩ (c_L_nextReminder l hl9 G k h a c C n0 M ds n1 d oL fL H.size (xs (i + 1)) ((yD_l hD).weaken (fun _ _ _ _ => trivial)) hn hn1) (vx_cwSW 3 hts gL_law_L_nextReminder rfl rfl rfl (by decide +kernel) ⟨Nat.le_of_ble_eq_true rfl, Nat.le_of_ble_eq_true rfl⟩) ⟨yL_blind, fun U hU hW => ⟨rfl, by rw [hU], by rw [hU]; exact yP_l hP, va_K.moved hW.alike hK, yEV_at hE1 hU hW, fun z hz => va_Nc.moved hW.alike (hNC z hz)⟩⟩ rfl rfl hl.1 rfl (lv_room (Nat.le_of_ble_eq_true rfl)) dL_law_539 ⟨show cells + 2 ≤ 3132 by omega, show slots + 12 ≤ 120728 by omega⟩) hP hD hA hS (fun r fL1 H1 locs1 hp hP hS => ?_)
  obtain ⟨hp1, hp2⟩ := hp
  have hP : va_P G vwCl (WL k oL fL1 h a c C n0 M ds n1 d ++ ((oD, .inl (k 4, 1, .inr (.inr (.inr (.inl fD))))) :: W3 k a3 C n0 R n1 d th)) H1 := hP
  refine lv_istore (lv' := [(6, .int r), (0, .ref b), (1, .ref h), (2, .ref (a3 0)), (3, .ref oL), (4, .ref oD), (5, .int (nI i))]) hx hb dL_law_542 hl (by decide) rfl (fun ls hl => ?_)
  have hl := lv_sub (l' := [(0, .ref b), (1, .ref h), (2, .ref (a3 0)), (3, .ref oL), (4, .ref oD), (5, .int (nI i)), (6, .int r)]) hl [1, 2, 3, 4, 5, 6, 0] rfl
  refine lv_aload_n hx hb dL_law_544 rfl (lv_at hl 2 rfl) ?_
  refine y_scr (j := 1) (n1 := 1) hx hb hX hbl hbA hS hl rfl rfl (by omega) (by omega) dL_law_545 dL_law_546 (fun st k9 => lv_iconst (v := nI 1) hx hb dL_law_548 (by decide) k9) dL_law_549 dL_law_550 ?_
  have hP3 : va_P G vwCl (W3 k a3 C n0 R n1 d th ++ (WL k oL fL1 h a c C n0 M ds n1 d ++ [(oD, .inl (k 4, 1, .inr (.inr (.inr (.inl fD)))))])) H1 := hP.sub [22, 23, 24, 25, 26, 27, 28, 29, 30, 31, 32, 33, 34, 35, 36, 37, 0, 1, 2, 3, 4, 5, 6, 7, 8, 9, 10, 11, 12, 13, 14, 15, 16, 17, 18, 19, 20, 21] rfl
  have hD3 : va_D (fun q : Nat => s.heap.size ≤ q) (W3 k a3 C n0 R n1 d th ++ (WL k oL fL1 h a c C n0 M ds n1 d ++ [(oD, .inl (k 4, 1, .inr (.inr (.inr (.inl fD)))))])) := yD (hD.sub (ws' := W3 k a3 C n0 R n1 d th ++ (WL k oL fL h a c C n0 M ds n1 d ++ [(oD, .inl (k 4, 1, .inr (.inr (.inr (.inl fD)))))])) [22, 23, 24, 25, 26, 27, 28, 29, 30, 31, 32, 33, 34, 35, 36, 37, 0, 1, 2, 3, 4, 5, 6, 7, 8, 9, 10, 11, 12, 13, 14, 15, 16, 17, 18, 19, 20, 21] (by decide) rfl) rfl
  refine y_lcall (w1 := W3 k a3 C n0 R n1 d th) (w2 := (WL k oL fL1 h a c C n0 M ds n1 d ++ [(oD, .inl (k 4, 1, .inr (.inr (.inr (.inl fD)))))])) (va_runV (As := [.int (xs (i + 1))]) (rest := []) ⟨hx, hb, hml, hown, hts⟩ (c_X3_nextReminder l G k a3 C n0 R n1 d th H1.size (xs (i + 1)) ((yD_l hD3).weaken (fun _ _ _ _ => trivial)) hn hn1) (cwV 1 hts gL_law_X3_nextReminder rfl rfl rfl (by decide +kernel) ⟨Nat.le_of_ble_eq_true rfl, Nat.le_of_ble_eq_true rfl⟩) ⟨yBs_blind, va_recv hK (yP_l hP3) (ci := 5) (q0 := 0) rfl rfl, fun U hU hW => ⟨rfl, by rw [hU], by rw [hU]; exact yP_l hP3, va_K.moved hW.alike hK⟩⟩ rfl rfl hl.1 rfl (lv_room (Nat.le_of_ble_eq_true rfl)) dL_law_551 ⟨show cells + 2 + 0 ≤ 3132 by omega, show slots + 12 + 0 ≤ 120728 by omega⟩) hP3 hD3 hA hS (fun r2 u2 H2 locs2 hq hP hS => ?_)
  have hq9 : (o_nextReminder (xs (i + 1)) C n0 R n1 d) = (o_nextReminder (xs (i + 1)) C n0 M n1 d) := rel_next hY.2
  have ec : ((o_nextReminder (xs (i + 1)) C n0 R n1 d)).1 = ((o_nextReminder (xs (i + 1)) C n0 M n1 d)).1 := congrArg Prod.fst hq9
  have ea : ((o_nextReminder (xs (i + 1)) C n0 R n1 d)).2 = ((o_nextReminder (xs (i + 1)) C n0 M n1 d)).2 := congrArg (fun z => z.2) hq9
  have hP : va_P G vwCl (W3 k a3 C n0 R n1 d ((o_nextReminder (xs (i + 1)) C n0 R n1 d).1) ++ (WL k oL fL1 h a c C n0 M ds n1 d ++ [(oD, .inl (k 4, 1, .inr (.inr (.inr (.inl fD)))))])) H2 := hP
  refine lv_istore (lv' := [(7, .int r2), (0, .ref b), (1, .ref h), (2, .ref (a3 0)), (3, .ref oL), (4, .ref oD), (5, .int (nI i)), (6, .int r)]) hx hb dL_law_554 hl (by decide) rfl (fun ls hl => ?_)
  have hl := lv_sub (l' := [(0, .ref b), (1, .ref h), (2, .ref (a3 0)), (3, .ref oL), (4, .ref oD), (5, .int (nI i)), (6, .int r), (7, .int r2)]) hl [1, 2, 3, 4, 5, 6, 7, 0] rfl
  refine lv_aload_n hx hb dL_law_556 rfl (lv_at hl 2 rfl) ?_
  refine y_roV (As := []) (rest := []) ⟨hx, hb, hml, hown, hts⟩ (c_X3_thrown l G k a3 C n0 R n1 d ((o_nextReminder (xs (i + 1)) C n0 R n1 d).1)) (cwV 0 hts gL_law_X3_thrown rfl rfl rfl (by decide +kernel) ⟨Nat.le_of_ble_eq_true rfl, Nat.le_of_ble_eq_true rfl⟩) hK (yP_l hP) (va_recv hK (yP_l hP) (ci := 5) (q0 := 0) rfl rfl) rfl hl.1 rfl (Nat.le_of_ble_eq_true rfl) dL_law_557 ⟨show cells + 2 + 0 ≤ 3132 by omega, show slots + 12 + 0 ≤ 120728 by omega⟩ (fun r3 hr3 => ?_)
  refine lv_iload hx hb dL_law_560 (lv_at hl 6 rfl) ?_
  refine lv_icmp_eq (tgt := 567) hx hb dL_law_562 (by decide) (fun c1 => ?_) (fun c1 => absurd (hr3.trans (ec.trans hp1.symm)) c1)
  have hPf : va_P G vwCl (WA k oL fL1 oD fD h a c a3 C n0 M ds n1 d R ((o_nextReminder (xs (i + 1)) C n0 R n1 d).1)) H2 := hP.sub [16, 17, 18, 19, 20, 21, 22, 23, 24, 25, 26, 27, 28, 29, 30, 31, 32, 33, 34, 35, 36, 37, 0, 1, 2, 3, 4, 5, 6, 7, 8, 9, 10, 11, 12, 13, 14, 15] rfl
  have hYf : yY C n0 M ds n1 d R := hY
  have fin : W p l e room_1 s m #[Value.ref b] below meth c_ H2 locs2 (cells + 2 + 0) (slots + 12 + 0) Q (F0 m 584 ls []) := by
    refine lv_goto (tgt := 1724) hx hb dL_law_584 (by decide) ?_
    refine W.widen (k := cells + 6) (n := slots + 36) (by omega) (by omega) ?_
    exact kk hPf hYf hS (lv_sub hl [0, 1, 2, 3, 4, 5] rfl)
  refine lv_iload hx hb dL_law_567 (lv_at hl 6 rfl) ?_
  refine lv_if_ne (tgt := 584) hx hb dL_law_569 (by decide) (fun _ => fin) (fun c2 => ?_)
  have h0 := hp2 (by rw [← hp1]; exact c2)
  refine lv_aload_n hx hb dL_law_572 rfl (lv_at hl 3 rfl) ?_
  refine lv_iconst (v := 0) hx hb dL_law_573 (by decide) ?_
  refine va_lald hx hb hK hPf 0 3 rfl rfl (vp_in_nI (n := 0) (N := 1) (by decide) (by decide)) dL_law_574 ?_
  refine lv_iload hx hb dL_law_575 (lv_at hl 7 rfl) ?_
  refine lv_i2l (v := r2.toInt64) hx hb dL_law_577 rfl ?_
  refine y_lcmp hx hb (by show fL1 0 = _; rw [h0, hq, ea]) dL_law_578 ?_
  exact lv_if_eq (tgt := 584) hx hb dL_law_579 (by decide) (fun _ => fin) (fun c3 => absurd rfl c3)
set_option maxHeartbeats 4000000 in
set_option maxRecDepth 100000 in
theorem law_post {p : Program} {l : Launch} {e : Env} {s : State} {m : MethodId} {below : List Frame} {meth : Method} {c_ : Code} {b L : Nat} {xs : Nat → Int32} {G : va_G} {k : Nat → ClassId} {oL oD h : Nat} {a c a3 : Nat → Nat} (F : LF p l s m meth c_ b L xs G k) {i : Nat} (hi : i + 7 ≤ L) {cells slots : Nat} (hc : cells + 6 ≤ 3132 ∧ slots + 36 ≤ 120728) {Q : State → Prop} {fL : Nat → Int64} {fD : Nat → UInt64} {C : Nat → Nat → Int32} {n0 : Nat} {M : Nat → Nat → Int32} {ds n1 d : Nat} {R : Nat → Nat → Int32} {th : Int32} {H : Heap} {locs : List Loc} (hP : va_P G vwCl (WA k oL fL oD fD h a c a3 C n0 M ds n1 d R th) H) (hD : va_D (fun q : Nat => s.heap.size ≤ q) (WA k oL fL oD fD h a c a3 C n0 M ds n1 d R th)) (hY : yY C n0 M ds n1 d R) (hS : va_S (fun q : Nat => s.heap.size ≤ q) s.heap H locs) {ls : Array Slot} (hl : lv_has ls 9 [(0, .ref b), (1, .ref h), (2, .ref (a3 0)), (3, .ref oL), (4, .ref oD), (5, .int (nI i))]) (kk : LK p l e s m below meth c_ b G k oL oD h a c a3 i cells slots Q) : W p l e room_1 s m #[Value.ref b] below meth c_ H locs cells slots Q (F0 m 587 ls []) := by
  obtain ⟨hx, hb, hr, hml, hown, hts, hX, hbl, hL, hK, hE, hNC, hl9⟩ := F
  have hA : ∀ q : Nat, s.heap.size ≤ q → (fun q : Nat => s.heap.size ≤ q) q := fun _ h => h
  have hbA : ¬ (fun q : Nat => s.heap.size ≤ q) b := Nat.not_le.mpr hbl
  have hn := hY.1.1
  have hn1 := hY.1.2.1
  have hC := hY.1.2.2.2.1
  have hw : ∀ z, z < n0 → C 4 z = 0 ∨ C 4 z = 1 := fun z _ => hY.1.2.2.2.2.1 z
  have hE1 : yEV0 s H := yEV0_kept hE ⟨hS.1, hS.2.1, fun q hq => nomatch hq⟩ (fun q h1 h2 => absurd h1 (Nat.not_lt.mpr h2))
  refine lv_aload_n hx hb dL_law_587 rfl (lv_at hl 1 rfl) ?_
  refine y_scr (j := 1) (n1 := 1) hx hb hX hbl hbA hS hl rfl rfl (by omega) (by omega) dL_law_588 dL_law_589 (fun st k9 => lv_iconst (v := nI 1) hx hb dL_law_591 (by decide) k9) dL_law_592 dL_law_593 ?_
  refine y_scr (j := 2) (n1 := 1) hx hb hX hbl hbA hS hl rfl rfl (by omega) (by omega) dL_law_594 dL_law_595 (fun st k9 => lv_iconst (v := nI 2) hx hb dL_law_597 (by decide) k9) dL_law_598 dL_law_599 ?_
  refine y_scr (j := 3) (n1 := 1) hx hb hX hbl hbA hS hl rfl rfl (by omega) (by omega) dL_law_600 dL_law_601 (fun st k9 => lv_iconst (v := nI 3) hx hb dL_law_603 (by decide) k9) dL_law_604 dL_law_605 ?_
  refine lv_i2c (v := ((xs (i + 3)).toUInt32 % 65536).toInt32) hx hb dL_law_606 rfl ?_
  refine y_scr (j := 4) (n1 := 1) hx hb hX hbl hbA hS hl rfl rfl (by omega) (by omega) dL_law_607 dL_law_608 (fun st k9 => lv_iconst (v := nI 4) hx hb dL_law_610 (by decide) k9) dL_law_611 dL_law_612 ?_
  refine y_scr (j := 5) (n1 := 1) hx hb hX hbl hbA hS hl rfl rfl (by omega) (by omega) dL_law_613 dL_law_614 (fun st k9 => lv_iconst (v := nI 5) hx hb dL_law_616 (by decide) k9) dL_law_617 dL_law_618 ?_
  refine y_scr (j := 6) (n1 := 2) hx hb hX hbl hbA hS hl rfl rfl (by omega) (by omega) dL_law_619 dL_law_620 (fun st k9 => lv_bipush (v := nI 6) hx hb dL_law_622 (by decide) k9) dL_law_624 dL_law_625 ?_
  refine lv_aload_n hx hb dL_law_626 rfl (lv_at hl 3 rfl) ?_
  refine y_lcall (w2 := ((oD, .inl (k 4, 1, .inr (.inr (.inr (.inl fD))))) :: W3 k a3 C n0 R n1 d th)) (vx_runSW (As := [.ref h, .int (xs (i + 1)), .int (xs (i + 2)), .int (((xs (i + 3)).toUInt32 % 65536).toInt32), .int (xs (i + 4)), .int (xs (i + 5)), .int (xs (i + 6)), .ref oL]) (rest := []) ⟨hx, hb, hml, hown, hts⟩ (c_L_post l hl9 G k h a c C n0 M ds n1 d oL fL H.size (xs (i + 1)) (xs (i + 2)) (((xs (i + 3)).toUInt32 % 65536).toInt32) (xs (i + 4)) (xs (i + 5)) (xs (i + 6)) ((yD_l hD).weaken (fun _ _ _ _ => trivial)) hn hn1) (vx_cwSW 8 hts gL_law_L_post rfl rfl rfl (by decide +kernel) ⟨Nat.le_of_ble_eq_true rfl, Nat.le_of_ble_eq_true rfl⟩) ⟨yL_blind, fun U hU hW => ⟨rfl, by rw [hU], by rw [hU]; exact yP_l hP, va_K.moved hW.alike hK, yEV_at hE1 hU hW, fun z hz => va_Nc.moved hW.alike (hNC z hz)⟩⟩ rfl rfl hl.1 rfl (lv_room (Nat.le_of_ble_eq_true rfl)) dL_law_627 ⟨show cells + 2 ≤ 3132 by omega, show slots + 12 ≤ 120728 by omega⟩) hP hD hA hS (fun r fL1 H1 locs1 hp hP hS => ?_)
  obtain ⟨hp1, hp2⟩ := hp
  have hP : va_P G vwCl (WL k oL fL1 h a c C n0 ((o_post (xs (i + 1)) (xs (i + 2)) (((xs (i + 3)).toUInt32 % 65536).toInt32) (xs (i + 4)) (xs (i + 5)) (xs (i + 6)) n0 M n1 d).2.2.1) ds ((o_post (xs (i + 1)) (xs (i + 2)) (((xs (i + 3)).toUInt32 % 65536).toInt32) (xs (i + 4)) (xs (i + 5)) (xs (i + 6)) n0 M n1 d).2.2.2) d ++ ((oD, .inl (k 4, 1, .inr (.inr (.inr (.inl fD))))) :: W3 k a3 C n0 R n1 d th)) H1 := hP
  refine lv_istore (lv' := [(6, .int r), (0, .ref b), (1, .ref h), (2, .ref (a3 0)), (3, .ref oL), (4, .ref oD), (5, .int (nI i))]) hx hb dL_law_630 hl (by decide) rfl (fun ls hl => ?_)
  have hl := lv_sub (l' := [(0, .ref b), (1, .ref h), (2, .ref (a3 0)), (3, .ref oL), (4, .ref oD), (5, .int (nI i)), (6, .int r)]) hl [1, 2, 3, 4, 5, 6, 0] rfl
  refine lv_aload_n hx hb dL_law_632 rfl (lv_at hl 2 rfl) ?_
  refine y_scr (j := 1) (n1 := 1) hx hb hX hbl hbA hS hl rfl rfl (by omega) (by omega) dL_law_633 dL_law_634 (fun st k9 => lv_iconst (v := nI 1) hx hb dL_law_636 (by decide) k9) dL_law_637 dL_law_638 ?_
  refine y_scr (j := 2) (n1 := 1) hx hb hX hbl hbA hS hl rfl rfl (by omega) (by omega) dL_law_639 dL_law_640 (fun st k9 => lv_iconst (v := nI 2) hx hb dL_law_642 (by decide) k9) dL_law_643 dL_law_644 ?_
  refine y_scr (j := 3) (n1 := 1) hx hb hX hbl hbA hS hl rfl rfl (by omega) (by omega) dL_law_645 dL_law_646 (fun st k9 => lv_iconst (v := nI 3) hx hb dL_law_648 (by decide) k9) dL_law_649 dL_law_650 ?_
  refine lv_i2c (v := ((xs (i + 3)).toUInt32 % 65536).toInt32) hx hb dL_law_651 rfl ?_
  refine y_scr (j := 4) (n1 := 1) hx hb hX hbl hbA hS hl rfl rfl (by omega) (by omega) dL_law_652 dL_law_653 (fun st k9 => lv_iconst (v := nI 4) hx hb dL_law_655 (by decide) k9) dL_law_656 dL_law_657 ?_
  refine y_scr (j := 5) (n1 := 1) hx hb hX hbl hbA hS hl rfl rfl (by omega) (by omega) dL_law_658 dL_law_659 (fun st k9 => lv_iconst (v := nI 5) hx hb dL_law_661 (by decide) k9) dL_law_662 dL_law_663 ?_
  refine y_scr (j := 6) (n1 := 2) hx hb hX hbl hbA hS hl rfl rfl (by omega) (by omega) dL_law_664 dL_law_665 (fun st k9 => lv_bipush (v := nI 6) hx hb dL_law_667 (by decide) k9) dL_law_669 dL_law_670 ?_
  have hP3 : va_P G vwCl (W3 k a3 C n0 R n1 d th ++ (WL k oL fL1 h a c C n0 ((o_post (xs (i + 1)) (xs (i + 2)) (((xs (i + 3)).toUInt32 % 65536).toInt32) (xs (i + 4)) (xs (i + 5)) (xs (i + 6)) n0 M n1 d).2.2.1) ds ((o_post (xs (i + 1)) (xs (i + 2)) (((xs (i + 3)).toUInt32 % 65536).toInt32) (xs (i + 4)) (xs (i + 5)) (xs (i + 6)) n0 M n1 d).2.2.2) d ++ [(oD, .inl (k 4, 1, .inr (.inr (.inr (.inl fD)))))])) H1 := hP.sub [22, 23, 24, 25, 26, 27, 28, 29, 30, 31, 32, 33, 34, 35, 36, 37, 0, 1, 2, 3, 4, 5, 6, 7, 8, 9, 10, 11, 12, 13, 14, 15, 16, 17, 18, 19, 20, 21] rfl
  have hD3 : va_D (fun q : Nat => s.heap.size ≤ q) (W3 k a3 C n0 R n1 d th ++ (WL k oL fL1 h a c C n0 ((o_post (xs (i + 1)) (xs (i + 2)) (((xs (i + 3)).toUInt32 % 65536).toInt32) (xs (i + 4)) (xs (i + 5)) (xs (i + 6)) n0 M n1 d).2.2.1) ds ((o_post (xs (i + 1)) (xs (i + 2)) (((xs (i + 3)).toUInt32 % 65536).toInt32) (xs (i + 4)) (xs (i + 5)) (xs (i + 6)) n0 M n1 d).2.2.2) d ++ [(oD, .inl (k 4, 1, .inr (.inr (.inr (.inl fD)))))])) := yD (hD.sub (ws' := W3 k a3 C n0 R n1 d th ++ (WL k oL fL h a c C n0 M ds n1 d ++ [(oD, .inl (k 4, 1, .inr (.inr (.inr (.inl fD)))))])) [22, 23, 24, 25, 26, 27, 28, 29, 30, 31, 32, 33, 34, 35, 36, 37, 0, 1, 2, 3, 4, 5, 6, 7, 8, 9, 10, 11, 12, 13, 14, 15, 16, 17, 18, 19, 20, 21] (by decide) rfl) rfl
  refine y_lcall (w1 := W3 k a3 C n0 R n1 d th) (w2 := (WL k oL fL1 h a c C n0 ((o_post (xs (i + 1)) (xs (i + 2)) (((xs (i + 3)).toUInt32 % 65536).toInt32) (xs (i + 4)) (xs (i + 5)) (xs (i + 6)) n0 M n1 d).2.2.1) ds ((o_post (xs (i + 1)) (xs (i + 2)) (((xs (i + 3)).toUInt32 % 65536).toInt32) (xs (i + 4)) (xs (i + 5)) (xs (i + 6)) n0 M n1 d).2.2.2) d ++ [(oD, .inl (k 4, 1, .inr (.inr (.inr (.inl fD)))))])) (va_runV (As := [.int (xs (i + 1)), .int (xs (i + 2)), .int (((xs (i + 3)).toUInt32 % 65536).toInt32), .int (xs (i + 4)), .int (xs (i + 5)), .int (xs (i + 6))]) (rest := []) ⟨hx, hb, hml, hown, hts⟩ (c_X3_post l G k a3 C n0 R n1 d th H1.size (xs (i + 1)) (xs (i + 2)) (((xs (i + 3)).toUInt32 % 65536).toInt32) (xs (i + 4)) (xs (i + 5)) (xs (i + 6)) ((yD_l hD3).weaken (fun _ _ _ _ => trivial)) hn hn1) (cwV 6 hts gL_law_X3_post rfl rfl rfl (by decide +kernel) ⟨Nat.le_of_ble_eq_true rfl, Nat.le_of_ble_eq_true rfl⟩) ⟨yBs_blind, va_recv hK (yP_l hP3) (ci := 5) (q0 := 0) rfl rfl, fun U hU hW => ⟨rfl, by rw [hU], by rw [hU]; exact yP_l hP3, va_K.moved hW.alike hK⟩⟩ rfl rfl hl.1 rfl (lv_room (Nat.le_of_ble_eq_true rfl)) dL_law_671 ⟨show cells + 2 + 0 ≤ 3132 by omega, show slots + 12 + 0 ≤ 120728 by omega⟩) hP3 hD3 hA hS (fun r2 u2 H2 locs2 hq hP hS => ?_)
  have e9 := rel_post hY.2 (q := (xs (i + 1))) (key := (xs (i + 2))) (kd := (((xs (i + 3)).toUInt32 % 65536).toInt32)) (x := (xs (i + 4))) (v := (xs (i + 5))) (dl := (xs (i + 6))) (n0 := n0) (n1 := n1) (d := d)
  have ec : ((o_post (xs (i + 1)) (xs (i + 2)) (((xs (i + 3)).toUInt32 % 65536).toInt32) (xs (i + 4)) (xs (i + 5)) (xs (i + 6)) n0 R n1 d)).1 = ((o_post (xs (i + 1)) (xs (i + 2)) (((xs (i + 3)).toUInt32 % 65536).toInt32) (xs (i + 4)) (xs (i + 5)) (xs (i + 6)) n0 M n1 d)).1 := by first | exact e9.1 | exact (rel_post hY.2 (q := (xs (i + 1))) (key := (xs (i + 2))) (kd := (((xs (i + 3)).toUInt32 % 65536).toInt32)) (x := (xs (i + 4))) (v := (xs (i + 5))) (dl := (xs (i + 6))) (n0 := n0) (n1 := n1) (d := d)).1
  have ea : ((o_post (xs (i + 1)) (xs (i + 2)) (((xs (i + 3)).toUInt32 % 65536).toInt32) (xs (i + 4)) (xs (i + 5)) (xs (i + 6)) n0 R n1 d)).2.1 = ((o_post (xs (i + 1)) (xs (i + 2)) (((xs (i + 3)).toUInt32 % 65536).toInt32) (xs (i + 4)) (xs (i + 5)) (xs (i + 6)) n0 M n1 d)).2.1 := by first | exact e9.2.1 | exact (rel_post hY.2 (q := (xs (i + 1))) (key := (xs (i + 2))) (kd := (((xs (i + 3)).toUInt32 % 65536).toInt32)) (x := (xs (i + 4))) (v := (xs (i + 5))) (dl := (xs (i + 6))) (n0 := n0) (n1 := n1) (d := d)).2.1
  have hP : va_P G vwCl (W3 k a3 C n0 ((o_post (xs (i + 1)) (xs (i + 2)) (((xs (i + 3)).toUInt32 % 65536).toInt32) (xs (i + 4)) (xs (i + 5)) (xs (i + 6)) n0 R n1 d).2.2.1) ((o_post (xs (i + 1)) (xs (i + 2)) (((xs (i + 3)).toUInt32 % 65536).toInt32) (xs (i + 4)) (xs (i + 5)) (xs (i + 6)) n0 R n1 d).2.2.2) d ((o_post (xs (i + 1)) (xs (i + 2)) (((xs (i + 3)).toUInt32 % 65536).toInt32) (xs (i + 4)) (xs (i + 5)) (xs (i + 6)) n0 R n1 d).1) ++ (WL k oL fL1 h a c C n0 ((o_post (xs (i + 1)) (xs (i + 2)) (((xs (i + 3)).toUInt32 % 65536).toInt32) (xs (i + 4)) (xs (i + 5)) (xs (i + 6)) n0 M n1 d).2.2.1) ds ((o_post (xs (i + 1)) (xs (i + 2)) (((xs (i + 3)).toUInt32 % 65536).toInt32) (xs (i + 4)) (xs (i + 5)) (xs (i + 6)) n0 M n1 d).2.2.2) d ++ [(oD, .inl (k 4, 1, .inr (.inr (.inr (.inl fD)))))])) H2 := hP
  refine lv_istore (lv' := [(7, .int r2), (0, .ref b), (1, .ref h), (2, .ref (a3 0)), (3, .ref oL), (4, .ref oD), (5, .int (nI i)), (6, .int r)]) hx hb dL_law_674 hl (by decide) rfl (fun ls hl => ?_)
  have hl := lv_sub (l' := [(0, .ref b), (1, .ref h), (2, .ref (a3 0)), (3, .ref oL), (4, .ref oD), (5, .int (nI i)), (6, .int r), (7, .int r2)]) hl [1, 2, 3, 4, 5, 6, 7, 0] rfl
  refine lv_aload_n hx hb dL_law_676 rfl (lv_at hl 2 rfl) ?_
  refine y_roV (As := []) (rest := []) ⟨hx, hb, hml, hown, hts⟩ (c_X3_thrown l G k a3 C n0 ((o_post (xs (i + 1)) (xs (i + 2)) (((xs (i + 3)).toUInt32 % 65536).toInt32) (xs (i + 4)) (xs (i + 5)) (xs (i + 6)) n0 R n1 d).2.2.1) ((o_post (xs (i + 1)) (xs (i + 2)) (((xs (i + 3)).toUInt32 % 65536).toInt32) (xs (i + 4)) (xs (i + 5)) (xs (i + 6)) n0 R n1 d).2.2.2) d ((o_post (xs (i + 1)) (xs (i + 2)) (((xs (i + 3)).toUInt32 % 65536).toInt32) (xs (i + 4)) (xs (i + 5)) (xs (i + 6)) n0 R n1 d).1)) (cwV 0 hts gL_law_X3_thrown rfl rfl rfl (by decide +kernel) ⟨Nat.le_of_ble_eq_true rfl, Nat.le_of_ble_eq_true rfl⟩) hK (yP_l hP) (va_recv hK (yP_l hP) (ci := 5) (q0 := 0) rfl rfl) rfl hl.1 rfl (Nat.le_of_ble_eq_true rfl) dL_law_677 ⟨show cells + 2 + 0 ≤ 3132 by omega, show slots + 12 + 0 ≤ 120728 by omega⟩ (fun r3 hr3 => ?_)
  refine lv_iload hx hb dL_law_680 (lv_at hl 6 rfl) ?_
  refine lv_icmp_eq (tgt := 687) hx hb dL_law_682 (by decide) (fun c1 => ?_) (fun c1 => absurd (hr3.trans (ec.trans hp1.symm)) c1)
  rw [e9.2.2.1] at hP
  have hPf : va_P G vwCl (WA k oL fL1 oD fD h a c a3 C n0 ((o_post (xs (i + 1)) (xs (i + 2)) (((xs (i + 3)).toUInt32 % 65536).toInt32) (xs (i + 4)) (xs (i + 5)) (xs (i + 6)) n0 M n1 d).2.2.1) ds ((o_post (xs (i + 1)) (xs (i + 2)) (((xs (i + 3)).toUInt32 % 65536).toInt32) (xs (i + 4)) (xs (i + 5)) (xs (i + 6)) n0 M n1 d).2.2.2) d ((o_post (xs (i + 1)) (xs (i + 2)) (((xs (i + 3)).toUInt32 % 65536).toInt32) (xs (i + 4)) (xs (i + 5)) (xs (i + 6)) n0 R n1 d).2.2.1) ((o_post (xs (i + 1)) (xs (i + 2)) (((xs (i + 3)).toUInt32 % 65536).toInt32) (xs (i + 4)) (xs (i + 5)) (xs (i + 6)) n0 R n1 d).1)) H2 := hP.sub [16, 17, 18, 19, 20, 21, 22, 23, 24, 25, 26, 27, 28, 29, 30, 31, 32, 33, 34, 35, 36, 37, 0, 1, 2, 3, 4, 5, 6, 7, 8, 9, 10, 11, 12, 13, 14, 15] rfl
  have hYf : yY C n0 ((o_post (xs (i + 1)) (xs (i + 2)) (((xs (i + 3)).toUInt32 % 65536).toInt32) (xs (i + 4)) (xs (i + 5)) (xs (i + 6)) n0 M n1 d).2.2.1) ds ((o_post (xs (i + 1)) (xs (i + 2)) (((xs (i + 3)).toUInt32 % 65536).toInt32) (xs (i + 4)) (xs (i + 5)) (xs (i + 6)) n0 M n1 d).2.2.2) d ((o_post (xs (i + 1)) (xs (i + 2)) (((xs (i + 3)).toUInt32 % 65536).toInt32) (xs (i + 4)) (xs (i + 5)) (xs (i + 6)) n0 R n1 d).2.2.1) := yY_post hY (xs (i + 1)) (xs (i + 2)) (((xs (i + 3)).toUInt32 % 65536).toInt32) (xs (i + 4)) (xs (i + 5)) (xs (i + 6))
  have fin : W p l e room_1 s m #[Value.ref b] below meth c_ H2 locs2 (cells + 2 + 0) (slots + 12 + 0) Q (F0 m 704 ls []) := by
    refine lv_goto (tgt := 1724) hx hb dL_law_704 (by decide) ?_
    refine W.widen (k := cells + 6) (n := slots + 36) (by omega) (by omega) ?_
    exact kk hPf hYf hS (lv_sub hl [0, 1, 2, 3, 4, 5] rfl)
  refine lv_iload hx hb dL_law_687 (lv_at hl 6 rfl) ?_
  refine lv_if_ne (tgt := 704) hx hb dL_law_689 (by decide) (fun _ => fin) (fun c2 => ?_)
  have h0 := hp2 (by rw [← hp1]; exact c2)
  refine lv_aload_n hx hb dL_law_692 rfl (lv_at hl 3 rfl) ?_
  refine lv_iconst (v := 0) hx hb dL_law_693 (by decide) ?_
  refine va_lald hx hb hK hPf 0 3 rfl rfl (vp_in_nI (n := 0) (N := 1) (by decide) (by decide)) dL_law_694 ?_
  refine lv_iload hx hb dL_law_695 (lv_at hl 7 rfl) ?_
  refine lv_i2l (v := r2.toInt64) hx hb dL_law_697 rfl ?_
  refine y_lcmp hx hb (by show fL1 0 = _; rw [h0, hq, ea]) dL_law_698 ?_
  exact lv_if_eq (tgt := 704) hx hb dL_law_699 (by decide) (fun _ => fin) (fun c3 => absurd rfl c3)
set_option maxHeartbeats 4000000 in
set_option maxRecDepth 100000 in
theorem law_withKey {p : Program} {l : Launch} {e : Env} {s : State} {m : MethodId} {below : List Frame} {meth : Method} {c_ : Code} {b L : Nat} {xs : Nat → Int32} {G : va_G} {k : Nat → ClassId} {oL oD h : Nat} {a c a3 : Nat → Nat} (F : LF p l s m meth c_ b L xs G k) {i : Nat} (hi : i + 7 ≤ L) {cells slots : Nat} (hc : cells + 6 ≤ 3132 ∧ slots + 36 ≤ 120728) {Q : State → Prop} {fL : Nat → Int64} {fD : Nat → UInt64} {C : Nat → Nat → Int32} {n0 : Nat} {M : Nat → Nat → Int32} {ds n1 d : Nat} {R : Nat → Nat → Int32} {th : Int32} {H : Heap} {locs : List Loc} (hP : va_P G vwCl (WA k oL fL oD fD h a c a3 C n0 M ds n1 d R th) H) (hD : va_D (fun q : Nat => s.heap.size ≤ q) (WA k oL fL oD fD h a c a3 C n0 M ds n1 d R th)) (hY : yY C n0 M ds n1 d R) (hS : va_S (fun q : Nat => s.heap.size ≤ q) s.heap H locs) {ls : Array Slot} (hl : lv_has ls 9 [(0, .ref b), (1, .ref h), (2, .ref (a3 0)), (3, .ref oL), (4, .ref oD), (5, .int (nI i))]) (kk : LK p l e s m below meth c_ b G k oL oD h a c a3 i cells slots Q) : W p l e room_1 s m #[Value.ref b] below meth c_ H locs cells slots Q (F0 m 707 ls []) := by
  obtain ⟨hx, hb, hr, hml, hown, hts, hX, hbl, hL, hK, hE, hNC, hl9⟩ := F
  have hA : ∀ q : Nat, s.heap.size ≤ q → (fun q : Nat => s.heap.size ≤ q) q := fun _ h => h
  have hbA : ¬ (fun q : Nat => s.heap.size ≤ q) b := Nat.not_le.mpr hbl
  have hn := hY.1.1
  have hn1 := hY.1.2.1
  have hC := hY.1.2.2.2.1
  have hw : ∀ z, z < n0 → C 4 z = 0 ∨ C 4 z = 1 := fun z _ => hY.1.2.2.2.2.1 z
  have hE1 : yEV0 s H := yEV0_kept hE ⟨hS.1, hS.2.1, fun q hq => nomatch hq⟩ (fun q h1 h2 => absurd h1 (Nat.not_lt.mpr h2))
  refine lv_aload_n hx hb dL_law_707 rfl (lv_at hl 1 rfl) ?_
  refine y_scr (j := 1) (n1 := 1) hx hb hX hbl hbA hS hl rfl rfl (by omega) (by omega) dL_law_708 dL_law_709 (fun st k9 => lv_iconst (v := nI 1) hx hb dL_law_711 (by decide) k9) dL_law_712 dL_law_713 ?_
  refine lv_aload_n hx hb dL_law_714 rfl (lv_at hl 3 rfl) ?_
  refine y_lcall (w2 := ((oD, .inl (k 4, 1, .inr (.inr (.inr (.inl fD))))) :: W3 k a3 C n0 R n1 d th)) (vx_runSW (As := [.ref h, .int (xs (i + 1)), .ref oL]) (rest := []) ⟨hx, hb, hml, hown, hts⟩ (c_L_withKey l hl9 G k h a c C n0 M ds n1 d oL fL H.size (xs (i + 1)) ((yD_l hD).weaken (fun _ _ _ _ => trivial)) hn1) (vx_cwSW 3 hts gL_law_L_withKey rfl rfl rfl (by decide +kernel) ⟨Nat.le_of_ble_eq_true rfl, Nat.le_of_ble_eq_true rfl⟩) ⟨yL_blind, fun U hU hW => ⟨rfl, by rw [hU], by rw [hU]; exact yP_l hP, va_K.moved hW.alike hK, yEV_at hE1 hU hW, fun z hz => va_Nc.moved hW.alike (hNC z hz)⟩⟩ rfl rfl hl.1 rfl (lv_room (Nat.le_of_ble_eq_true rfl)) dL_law_715 ⟨show cells + 1 ≤ 3132 by omega, show slots + 6 ≤ 120728 by omega⟩) hP hD hA hS (fun r fL1 H1 locs1 hp hP hS => ?_)
  obtain ⟨hp1, hp2⟩ := hp
  have hP : va_P G vwCl (WL k oL fL1 h a c C n0 M ds n1 d ++ ((oD, .inl (k 4, 1, .inr (.inr (.inr (.inl fD))))) :: W3 k a3 C n0 R n1 d th)) H1 := hP
  refine lv_istore (lv' := [(6, .int r), (0, .ref b), (1, .ref h), (2, .ref (a3 0)), (3, .ref oL), (4, .ref oD), (5, .int (nI i))]) hx hb dL_law_718 hl (by decide) rfl (fun ls hl => ?_)
  have hl := lv_sub (l' := [(0, .ref b), (1, .ref h), (2, .ref (a3 0)), (3, .ref oL), (4, .ref oD), (5, .int (nI i)), (6, .int r)]) hl [1, 2, 3, 4, 5, 6, 0] rfl
  refine lv_aload_n hx hb dL_law_720 rfl (lv_at hl 2 rfl) ?_
  refine y_scr (j := 1) (n1 := 1) hx hb hX hbl hbA hS hl rfl rfl (by omega) (by omega) dL_law_721 dL_law_722 (fun st k9 => lv_iconst (v := nI 1) hx hb dL_law_724 (by decide) k9) dL_law_725 dL_law_726 ?_
  have hP3 : va_P G vwCl (W3 k a3 C n0 R n1 d th ++ (WL k oL fL1 h a c C n0 M ds n1 d ++ [(oD, .inl (k 4, 1, .inr (.inr (.inr (.inl fD)))))])) H1 := hP.sub [22, 23, 24, 25, 26, 27, 28, 29, 30, 31, 32, 33, 34, 35, 36, 37, 0, 1, 2, 3, 4, 5, 6, 7, 8, 9, 10, 11, 12, 13, 14, 15, 16, 17, 18, 19, 20, 21] rfl
  have hD3 : va_D (fun q : Nat => s.heap.size ≤ q) (W3 k a3 C n0 R n1 d th ++ (WL k oL fL1 h a c C n0 M ds n1 d ++ [(oD, .inl (k 4, 1, .inr (.inr (.inr (.inl fD)))))])) := yD (hD.sub (ws' := W3 k a3 C n0 R n1 d th ++ (WL k oL fL h a c C n0 M ds n1 d ++ [(oD, .inl (k 4, 1, .inr (.inr (.inr (.inl fD)))))])) [22, 23, 24, 25, 26, 27, 28, 29, 30, 31, 32, 33, 34, 35, 36, 37, 0, 1, 2, 3, 4, 5, 6, 7, 8, 9, 10, 11, 12, 13, 14, 15, 16, 17, 18, 19, 20, 21] (by decide) rfl) rfl
  refine y_lcall (w1 := W3 k a3 C n0 R n1 d th) (w2 := (WL k oL fL1 h a c C n0 M ds n1 d ++ [(oD, .inl (k 4, 1, .inr (.inr (.inr (.inl fD)))))])) (va_runV (As := [.int (xs (i + 1))]) (rest := []) ⟨hx, hb, hml, hown, hts⟩ (c_X3_withKey l G k a3 C n0 R n1 d th H1.size (xs (i + 1)) ((yD_l hD3).weaken (fun _ _ _ _ => trivial)) hn1) (cwV 1 hts gL_law_X3_withKey rfl rfl rfl (by decide +kernel) ⟨Nat.le_of_ble_eq_true rfl, Nat.le_of_ble_eq_true rfl⟩) ⟨yBs_blind, va_recv hK (yP_l hP3) (ci := 5) (q0 := 0) rfl rfl, fun U hU hW => ⟨rfl, by rw [hU], by rw [hU]; exact yP_l hP3, va_K.moved hW.alike hK⟩⟩ rfl rfl hl.1 rfl (lv_room (Nat.le_of_ble_eq_true rfl)) dL_law_727 ⟨show cells + 1 + 0 ≤ 3132 by omega, show slots + 6 + 0 ≤ 120728 by omega⟩) hP3 hD3 hA hS (fun r2 u2 H2 locs2 hq hP hS => ?_)
  have hq9 : (o_withKey (xs (i + 1)) R n1) = (o_withKey (xs (i + 1)) M n1) := rel_withKey hY.2
  have ec : ((o_withKey (xs (i + 1)) R n1)).1 = ((o_withKey (xs (i + 1)) M n1)).1 := congrArg Prod.fst hq9
  have ea : ((o_withKey (xs (i + 1)) R n1)).2 = ((o_withKey (xs (i + 1)) M n1)).2 := congrArg (fun z => z.2) hq9
  have hP : va_P G vwCl (W3 k a3 C n0 R n1 d ((o_withKey (xs (i + 1)) R n1).1) ++ (WL k oL fL1 h a c C n0 M ds n1 d ++ [(oD, .inl (k 4, 1, .inr (.inr (.inr (.inl fD)))))])) H2 := hP
  refine lv_istore (lv' := [(7, .int r2), (0, .ref b), (1, .ref h), (2, .ref (a3 0)), (3, .ref oL), (4, .ref oD), (5, .int (nI i)), (6, .int r)]) hx hb dL_law_730 hl (by decide) rfl (fun ls hl => ?_)
  have hl := lv_sub (l' := [(0, .ref b), (1, .ref h), (2, .ref (a3 0)), (3, .ref oL), (4, .ref oD), (5, .int (nI i)), (6, .int r), (7, .int r2)]) hl [1, 2, 3, 4, 5, 6, 7, 0] rfl
  refine lv_aload_n hx hb dL_law_732 rfl (lv_at hl 2 rfl) ?_
  refine y_roV (As := []) (rest := []) ⟨hx, hb, hml, hown, hts⟩ (c_X3_thrown l G k a3 C n0 R n1 d ((o_withKey (xs (i + 1)) R n1).1)) (cwV 0 hts gL_law_X3_thrown rfl rfl rfl (by decide +kernel) ⟨Nat.le_of_ble_eq_true rfl, Nat.le_of_ble_eq_true rfl⟩) hK (yP_l hP) (va_recv hK (yP_l hP) (ci := 5) (q0 := 0) rfl rfl) rfl hl.1 rfl (Nat.le_of_ble_eq_true rfl) dL_law_733 ⟨show cells + 1 + 0 ≤ 3132 by omega, show slots + 6 + 0 ≤ 120728 by omega⟩ (fun r3 hr3 => ?_)
  refine lv_iload hx hb dL_law_736 (lv_at hl 6 rfl) ?_
  refine lv_icmp_eq (tgt := 743) hx hb dL_law_738 (by decide) (fun c1 => ?_) (fun c1 => absurd (hr3.trans (ec.trans hp1.symm)) c1)
  have hPf : va_P G vwCl (WA k oL fL1 oD fD h a c a3 C n0 M ds n1 d R ((o_withKey (xs (i + 1)) R n1).1)) H2 := hP.sub [16, 17, 18, 19, 20, 21, 22, 23, 24, 25, 26, 27, 28, 29, 30, 31, 32, 33, 34, 35, 36, 37, 0, 1, 2, 3, 4, 5, 6, 7, 8, 9, 10, 11, 12, 13, 14, 15] rfl
  have hYf : yY C n0 M ds n1 d R := hY
  have fin : W p l e room_1 s m #[Value.ref b] below meth c_ H2 locs2 (cells + 1 + 0) (slots + 6 + 0) Q (F0 m 760 ls []) := by
    refine lv_goto (tgt := 1724) hx hb dL_law_760 (by decide) ?_
    refine W.widen (k := cells + 6) (n := slots + 36) (by omega) (by omega) ?_
    exact kk hPf hYf hS (lv_sub hl [0, 1, 2, 3, 4, 5] rfl)
  refine lv_iload hx hb dL_law_743 (lv_at hl 6 rfl) ?_
  refine lv_if_ne (tgt := 760) hx hb dL_law_745 (by decide) (fun _ => fin) (fun c2 => ?_)
  have h0 := hp2 (by rw [← hp1]; exact c2)
  refine lv_aload_n hx hb dL_law_748 rfl (lv_at hl 3 rfl) ?_
  refine lv_iconst (v := 0) hx hb dL_law_749 (by decide) ?_
  refine va_lald hx hb hK hPf 0 3 rfl rfl (vp_in_nI (n := 0) (N := 1) (by decide) (by decide)) dL_law_750 ?_
  refine lv_iload hx hb dL_law_751 (lv_at hl 7 rfl) ?_
  refine lv_i2l (v := r2.toInt64) hx hb dL_law_753 rfl ?_
  refine y_lcmp hx hb (by show fL1 0 = _; rw [h0, hq, ea]) dL_law_754 ?_
  exact lv_if_eq (tgt := 760) hx hb dL_law_755 (by decide) (fun _ => fin) (fun c3 => absurd rfl c3)
set_option maxHeartbeats 4000000 in
set_option maxRecDepth 100000 in
theorem law_state {p : Program} {l : Launch} {e : Env} {s : State} {m : MethodId} {below : List Frame} {meth : Method} {c_ : Code} {b L : Nat} {xs : Nat → Int32} {G : va_G} {k : Nat → ClassId} {oL oD h : Nat} {a c a3 : Nat → Nat} (F : LF p l s m meth c_ b L xs G k) {i : Nat} (hi : i + 7 ≤ L) {cells slots : Nat} (hc : cells + 6 ≤ 3132 ∧ slots + 36 ≤ 120728) {Q : State → Prop} {fL : Nat → Int64} {fD : Nat → UInt64} {C : Nat → Nat → Int32} {n0 : Nat} {M : Nat → Nat → Int32} {ds n1 d : Nat} {R : Nat → Nat → Int32} {th : Int32} {H : Heap} {locs : List Loc} (hP : va_P G vwCl (WA k oL fL oD fD h a c a3 C n0 M ds n1 d R th) H) (hD : va_D (fun q : Nat => s.heap.size ≤ q) (WA k oL fL oD fD h a c a3 C n0 M ds n1 d R th)) (hY : yY C n0 M ds n1 d R) (hS : va_S (fun q : Nat => s.heap.size ≤ q) s.heap H locs) {ls : Array Slot} (hl : lv_has ls 9 [(0, .ref b), (1, .ref h), (2, .ref (a3 0)), (3, .ref oL), (4, .ref oD), (5, .int (nI i))]) (kk : LK p l e s m below meth c_ b G k oL oD h a c a3 i cells slots Q) : W p l e room_1 s m #[Value.ref b] below meth c_ H locs cells slots Q (F0 m 763 ls []) := by
  obtain ⟨hx, hb, hr, hml, hown, hts, hX, hbl, hL, hK, hE, hNC, hl9⟩ := F
  have hA : ∀ q : Nat, s.heap.size ≤ q → (fun q : Nat => s.heap.size ≤ q) q := fun _ h => h
  have hbA : ¬ (fun q : Nat => s.heap.size ≤ q) b := Nat.not_le.mpr hbl
  have hn := hY.1.1
  have hn1 := hY.1.2.1
  have hC := hY.1.2.2.2.1
  have hw : ∀ z, z < n0 → C 4 z = 0 ∨ C 4 z = 1 := fun z _ => hY.1.2.2.2.2.1 z
  have hch : ∀ z, z < n1 → narrow .char (.int (M 5 z)) = .int (M 5 z) := fun z hz => by
    rcases (yI_ok hY.1 z hz).1 with h9 | h9 | h9 | h9 | h9 <;> rw [h9] <;> rfl
  have hE1 : yEV0 s H := yEV0_kept hE ⟨hS.1, hS.2.1, fun q hq => nomatch hq⟩ (fun q h1 h2 => absurd h1 (Nat.not_lt.mpr h2))
  refine lv_aload_n hx hb dL_law_763 rfl (lv_at hl 1 rfl) ?_
  refine y_scr (j := 1) (n1 := 1) hx hb hX hbl hbA hS hl rfl rfl (by omega) (by omega) dL_law_764 dL_law_765 (fun st k9 => lv_iconst (v := nI 1) hx hb dL_law_767 (by decide) k9) dL_law_768 dL_law_769 ?_
  refine lv_aload_n hx hb dL_law_770 rfl (lv_at hl 3 rfl) ?_
  refine y_lcall (w2 := ((oD, .inl (k 4, 1, .inr (.inr (.inr (.inl fD))))) :: W3 k a3 C n0 R n1 d th)) (vx_runSW (As := [.ref h, .int (xs (i + 1)), .ref oL]) (rest := []) ⟨hx, hb, hml, hown, hts⟩ (c_L_state l hl9 G k h a c C n0 M ds n1 d oL fL H.size (xs (i + 1)) ((yD_l hD).weaken (fun _ _ _ _ => trivial)) hn1 hch) (vx_cwSW 3 hts gL_law_L_state rfl rfl rfl (by decide +kernel) ⟨Nat.le_of_ble_eq_true rfl, Nat.le_of_ble_eq_true rfl⟩) ⟨yL_blind, fun U hU hW => ⟨rfl, by rw [hU], by rw [hU]; exact yP_l hP, va_K.moved hW.alike hK, yEV_at hE1 hU hW, fun z hz => va_Nc.moved hW.alike (hNC z hz)⟩⟩ rfl rfl hl.1 rfl (lv_room (Nat.le_of_ble_eq_true rfl)) dL_law_771 ⟨show cells + 1 ≤ 3132 by omega, show slots + 6 ≤ 120728 by omega⟩) hP hD hA hS (fun r fL1 H1 locs1 hp hP hS => ?_)
  obtain ⟨hp1, hp2⟩ := hp
  have hP : va_P G vwCl (WL k oL fL1 h a c C n0 M ds n1 d ++ ((oD, .inl (k 4, 1, .inr (.inr (.inr (.inl fD))))) :: W3 k a3 C n0 R n1 d th)) H1 := hP
  refine lv_istore (lv' := [(6, .int r), (0, .ref b), (1, .ref h), (2, .ref (a3 0)), (3, .ref oL), (4, .ref oD), (5, .int (nI i))]) hx hb dL_law_774 hl (by decide) rfl (fun ls hl => ?_)
  have hl := lv_sub (l' := [(0, .ref b), (1, .ref h), (2, .ref (a3 0)), (3, .ref oL), (4, .ref oD), (5, .int (nI i)), (6, .int r)]) hl [1, 2, 3, 4, 5, 6, 0] rfl
  refine lv_aload_n hx hb dL_law_776 rfl (lv_at hl 2 rfl) ?_
  refine y_scr (j := 1) (n1 := 1) hx hb hX hbl hbA hS hl rfl rfl (by omega) (by omega) dL_law_777 dL_law_778 (fun st k9 => lv_iconst (v := nI 1) hx hb dL_law_780 (by decide) k9) dL_law_781 dL_law_782 ?_
  have hP3 : va_P G vwCl (W3 k a3 C n0 R n1 d th ++ (WL k oL fL1 h a c C n0 M ds n1 d ++ [(oD, .inl (k 4, 1, .inr (.inr (.inr (.inl fD)))))])) H1 := hP.sub [22, 23, 24, 25, 26, 27, 28, 29, 30, 31, 32, 33, 34, 35, 36, 37, 0, 1, 2, 3, 4, 5, 6, 7, 8, 9, 10, 11, 12, 13, 14, 15, 16, 17, 18, 19, 20, 21] rfl
  have hD3 : va_D (fun q : Nat => s.heap.size ≤ q) (W3 k a3 C n0 R n1 d th ++ (WL k oL fL1 h a c C n0 M ds n1 d ++ [(oD, .inl (k 4, 1, .inr (.inr (.inr (.inl fD)))))])) := yD (hD.sub (ws' := W3 k a3 C n0 R n1 d th ++ (WL k oL fL h a c C n0 M ds n1 d ++ [(oD, .inl (k 4, 1, .inr (.inr (.inr (.inl fD)))))])) [22, 23, 24, 25, 26, 27, 28, 29, 30, 31, 32, 33, 34, 35, 36, 37, 0, 1, 2, 3, 4, 5, 6, 7, 8, 9, 10, 11, 12, 13, 14, 15, 16, 17, 18, 19, 20, 21] (by decide) rfl) rfl
  refine y_lcall (w1 := W3 k a3 C n0 R n1 d th) (w2 := (WL k oL fL1 h a c C n0 M ds n1 d ++ [(oD, .inl (k 4, 1, .inr (.inr (.inr (.inl fD)))))])) (va_runV (As := [.int (xs (i + 1))]) (rest := []) ⟨hx, hb, hml, hown, hts⟩ (c_X3_state l G k a3 C n0 R n1 d th H1.size (xs (i + 1)) ((yD_l hD3).weaken (fun _ _ _ _ => trivial)) hn1 (by rw [hY.2.e5]; exact hch)) (cwV 1 hts gL_law_X3_state rfl rfl rfl (by decide +kernel) ⟨Nat.le_of_ble_eq_true rfl, Nat.le_of_ble_eq_true rfl⟩) ⟨yBs_blind, va_recv hK (yP_l hP3) (ci := 5) (q0 := 0) rfl rfl, fun U hU hW => ⟨rfl, by rw [hU], by rw [hU]; exact yP_l hP3, va_K.moved hW.alike hK⟩⟩ rfl rfl hl.1 rfl (lv_room (Nat.le_of_ble_eq_true rfl)) dL_law_783 ⟨show cells + 1 + 0 ≤ 3132 by omega, show slots + 6 + 0 ≤ 120728 by omega⟩) hP3 hD3 hA hS (fun r2 u2 H2 locs2 hq hP hS => ?_)
  have hq9 : (o_row 5 32 (xs (i + 1)) R n1) = (o_row 5 32 (xs (i + 1)) M n1) := rel_row hY.2 hY.2.e5
  have ec : ((o_row 5 32 (xs (i + 1)) R n1)).1 = ((o_row 5 32 (xs (i + 1)) M n1)).1 := congrArg Prod.fst hq9
  have ea : ((o_row 5 32 (xs (i + 1)) R n1)).2 = ((o_row 5 32 (xs (i + 1)) M n1)).2 := congrArg (fun z => z.2) hq9
  have hP : va_P G vwCl (W3 k a3 C n0 R n1 d ((o_row 5 32 (xs (i + 1)) R n1).1) ++ (WL k oL fL1 h a c C n0 M ds n1 d ++ [(oD, .inl (k 4, 1, .inr (.inr (.inr (.inl fD)))))])) H2 := hP
  refine lv_istore (lv' := [(7, .int r2), (0, .ref b), (1, .ref h), (2, .ref (a3 0)), (3, .ref oL), (4, .ref oD), (5, .int (nI i)), (6, .int r)]) hx hb dL_law_786 hl (by decide) rfl (fun ls hl => ?_)
  have hl := lv_sub (l' := [(0, .ref b), (1, .ref h), (2, .ref (a3 0)), (3, .ref oL), (4, .ref oD), (5, .int (nI i)), (6, .int r), (7, .int r2)]) hl [1, 2, 3, 4, 5, 6, 7, 0] rfl
  refine lv_aload_n hx hb dL_law_788 rfl (lv_at hl 2 rfl) ?_
  refine y_roV (As := []) (rest := []) ⟨hx, hb, hml, hown, hts⟩ (c_X3_thrown l G k a3 C n0 R n1 d ((o_row 5 32 (xs (i + 1)) R n1).1)) (cwV 0 hts gL_law_X3_thrown rfl rfl rfl (by decide +kernel) ⟨Nat.le_of_ble_eq_true rfl, Nat.le_of_ble_eq_true rfl⟩) hK (yP_l hP) (va_recv hK (yP_l hP) (ci := 5) (q0 := 0) rfl rfl) rfl hl.1 rfl (Nat.le_of_ble_eq_true rfl) dL_law_789 ⟨show cells + 1 + 0 ≤ 3132 by omega, show slots + 6 + 0 ≤ 120728 by omega⟩ (fun r3 hr3 => ?_)
  refine lv_iload hx hb dL_law_792 (lv_at hl 6 rfl) ?_
  refine lv_icmp_eq (tgt := 799) hx hb dL_law_794 (by decide) (fun c1 => ?_) (fun c1 => absurd (hr3.trans (ec.trans hp1.symm)) c1)
  have hPf : va_P G vwCl (WA k oL fL1 oD fD h a c a3 C n0 M ds n1 d R ((o_row 5 32 (xs (i + 1)) R n1).1)) H2 := hP.sub [16, 17, 18, 19, 20, 21, 22, 23, 24, 25, 26, 27, 28, 29, 30, 31, 32, 33, 34, 35, 36, 37, 0, 1, 2, 3, 4, 5, 6, 7, 8, 9, 10, 11, 12, 13, 14, 15] rfl
  have hYf : yY C n0 M ds n1 d R := hY
  have fin : W p l e room_1 s m #[Value.ref b] below meth c_ H2 locs2 (cells + 1 + 0) (slots + 6 + 0) Q (F0 m 816 ls []) := by
    refine lv_goto (tgt := 1724) hx hb dL_law_816 (by decide) ?_
    refine W.widen (k := cells + 6) (n := slots + 36) (by omega) (by omega) ?_
    exact kk hPf hYf hS (lv_sub hl [0, 1, 2, 3, 4, 5] rfl)
  refine lv_iload hx hb dL_law_799 (lv_at hl 6 rfl) ?_
  refine lv_if_ne (tgt := 816) hx hb dL_law_801 (by decide) (fun _ => fin) (fun c2 => ?_)
  have h0 := hp2 (by rw [← hp1]; exact c2)
  refine lv_aload_n hx hb dL_law_804 rfl (lv_at hl 3 rfl) ?_
  refine lv_iconst (v := 0) hx hb dL_law_805 (by decide) ?_
  refine va_lald hx hb hK hPf 0 3 rfl rfl (vp_in_nI (n := 0) (N := 1) (by decide) (by decide)) dL_law_806 ?_
  refine lv_iload hx hb dL_law_807 (lv_at hl 7 rfl) ?_
  refine lv_i2l (v := r2.toInt64) hx hb dL_law_809 rfl ?_
  refine y_lcmp hx hb (by show fL1 0 = _; rw [h0, hq, ea]) dL_law_810 ?_
  exact lv_if_eq (tgt := 816) hx hb dL_law_811 (by decide) (fun _ => fin) (fun c3 => absurd rfl c3)
set_option maxHeartbeats 4000000 in
set_option maxRecDepth 100000 in
theorem law_kind {p : Program} {l : Launch} {e : Env} {s : State} {m : MethodId} {below : List Frame} {meth : Method} {c_ : Code} {b L : Nat} {xs : Nat → Int32} {G : va_G} {k : Nat → ClassId} {oL oD h : Nat} {a c a3 : Nat → Nat} (F : LF p l s m meth c_ b L xs G k) {i : Nat} (hi : i + 7 ≤ L) {cells slots : Nat} (hc : cells + 6 ≤ 3132 ∧ slots + 36 ≤ 120728) {Q : State → Prop} {fL : Nat → Int64} {fD : Nat → UInt64} {C : Nat → Nat → Int32} {n0 : Nat} {M : Nat → Nat → Int32} {ds n1 d : Nat} {R : Nat → Nat → Int32} {th : Int32} {H : Heap} {locs : List Loc} (hP : va_P G vwCl (WA k oL fL oD fD h a c a3 C n0 M ds n1 d R th) H) (hD : va_D (fun q : Nat => s.heap.size ≤ q) (WA k oL fL oD fD h a c a3 C n0 M ds n1 d R th)) (hY : yY C n0 M ds n1 d R) (hS : va_S (fun q : Nat => s.heap.size ≤ q) s.heap H locs) {ls : Array Slot} (hl : lv_has ls 9 [(0, .ref b), (1, .ref h), (2, .ref (a3 0)), (3, .ref oL), (4, .ref oD), (5, .int (nI i))]) (kk : LK p l e s m below meth c_ b G k oL oD h a c a3 i cells slots Q) : W p l e room_1 s m #[Value.ref b] below meth c_ H locs cells slots Q (F0 m 819 ls []) := by
  obtain ⟨hx, hb, hr, hml, hown, hts, hX, hbl, hL, hK, hE, hNC, hl9⟩ := F
  have hA : ∀ q : Nat, s.heap.size ≤ q → (fun q : Nat => s.heap.size ≤ q) q := fun _ h => h
  have hbA : ¬ (fun q : Nat => s.heap.size ≤ q) b := Nat.not_le.mpr hbl
  have hn := hY.1.1
  have hn1 := hY.1.2.1
  have hC := hY.1.2.2.2.1
  have hw : ∀ z, z < n0 → C 4 z = 0 ∨ C 4 z = 1 := fun z _ => hY.1.2.2.2.2.1 z
  have hch : ∀ z, z < n1 → narrow .char (.int (M 2 z)) = .int (M 2 z) := fun z hz => by
    rcases (yI_ok hY.1 z hz).2.1 with h9 | h9 | h9 <;> rw [h9] <;> rfl
  have hE1 : yEV0 s H := yEV0_kept hE ⟨hS.1, hS.2.1, fun q hq => nomatch hq⟩ (fun q h1 h2 => absurd h1 (Nat.not_lt.mpr h2))
  refine lv_aload_n hx hb dL_law_819 rfl (lv_at hl 1 rfl) ?_
  refine y_scr (j := 1) (n1 := 1) hx hb hX hbl hbA hS hl rfl rfl (by omega) (by omega) dL_law_820 dL_law_821 (fun st k9 => lv_iconst (v := nI 1) hx hb dL_law_823 (by decide) k9) dL_law_824 dL_law_825 ?_
  refine lv_aload_n hx hb dL_law_826 rfl (lv_at hl 3 rfl) ?_
  refine y_lcall (w2 := ((oD, .inl (k 4, 1, .inr (.inr (.inr (.inl fD))))) :: W3 k a3 C n0 R n1 d th)) (vx_runSW (As := [.ref h, .int (xs (i + 1)), .ref oL]) (rest := []) ⟨hx, hb, hml, hown, hts⟩ (c_L_kind l hl9 G k h a c C n0 M ds n1 d oL fL H.size (xs (i + 1)) ((yD_l hD).weaken (fun _ _ _ _ => trivial)) hn1 hch) (vx_cwSW 3 hts gL_law_L_kind rfl rfl rfl (by decide +kernel) ⟨Nat.le_of_ble_eq_true rfl, Nat.le_of_ble_eq_true rfl⟩) ⟨yL_blind, fun U hU hW => ⟨rfl, by rw [hU], by rw [hU]; exact yP_l hP, va_K.moved hW.alike hK, yEV_at hE1 hU hW, fun z hz => va_Nc.moved hW.alike (hNC z hz)⟩⟩ rfl rfl hl.1 rfl (lv_room (Nat.le_of_ble_eq_true rfl)) dL_law_827 ⟨show cells + 1 ≤ 3132 by omega, show slots + 6 ≤ 120728 by omega⟩) hP hD hA hS (fun r fL1 H1 locs1 hp hP hS => ?_)
  obtain ⟨hp1, hp2⟩ := hp
  have hP : va_P G vwCl (WL k oL fL1 h a c C n0 M ds n1 d ++ ((oD, .inl (k 4, 1, .inr (.inr (.inr (.inl fD))))) :: W3 k a3 C n0 R n1 d th)) H1 := hP
  refine lv_istore (lv' := [(6, .int r), (0, .ref b), (1, .ref h), (2, .ref (a3 0)), (3, .ref oL), (4, .ref oD), (5, .int (nI i))]) hx hb dL_law_830 hl (by decide) rfl (fun ls hl => ?_)
  have hl := lv_sub (l' := [(0, .ref b), (1, .ref h), (2, .ref (a3 0)), (3, .ref oL), (4, .ref oD), (5, .int (nI i)), (6, .int r)]) hl [1, 2, 3, 4, 5, 6, 0] rfl
  refine lv_aload_n hx hb dL_law_832 rfl (lv_at hl 2 rfl) ?_
  refine y_scr (j := 1) (n1 := 1) hx hb hX hbl hbA hS hl rfl rfl (by omega) (by omega) dL_law_833 dL_law_834 (fun st k9 => lv_iconst (v := nI 1) hx hb dL_law_836 (by decide) k9) dL_law_837 dL_law_838 ?_
  have hP3 : va_P G vwCl (W3 k a3 C n0 R n1 d th ++ (WL k oL fL1 h a c C n0 M ds n1 d ++ [(oD, .inl (k 4, 1, .inr (.inr (.inr (.inl fD)))))])) H1 := hP.sub [22, 23, 24, 25, 26, 27, 28, 29, 30, 31, 32, 33, 34, 35, 36, 37, 0, 1, 2, 3, 4, 5, 6, 7, 8, 9, 10, 11, 12, 13, 14, 15, 16, 17, 18, 19, 20, 21] rfl
  have hD3 : va_D (fun q : Nat => s.heap.size ≤ q) (W3 k a3 C n0 R n1 d th ++ (WL k oL fL1 h a c C n0 M ds n1 d ++ [(oD, .inl (k 4, 1, .inr (.inr (.inr (.inl fD)))))])) := yD (hD.sub (ws' := W3 k a3 C n0 R n1 d th ++ (WL k oL fL h a c C n0 M ds n1 d ++ [(oD, .inl (k 4, 1, .inr (.inr (.inr (.inl fD)))))])) [22, 23, 24, 25, 26, 27, 28, 29, 30, 31, 32, 33, 34, 35, 36, 37, 0, 1, 2, 3, 4, 5, 6, 7, 8, 9, 10, 11, 12, 13, 14, 15, 16, 17, 18, 19, 20, 21] (by decide) rfl) rfl
  refine y_lcall (w1 := W3 k a3 C n0 R n1 d th) (w2 := (WL k oL fL1 h a c C n0 M ds n1 d ++ [(oD, .inl (k 4, 1, .inr (.inr (.inr (.inl fD)))))])) (va_runV (As := [.int (xs (i + 1))]) (rest := []) ⟨hx, hb, hml, hown, hts⟩ (c_X3_kind l G k a3 C n0 R n1 d th H1.size (xs (i + 1)) ((yD_l hD3).weaken (fun _ _ _ _ => trivial)) hn1 (by rw [hY.2.e2]; exact hch)) (cwV 1 hts gL_law_X3_kind rfl rfl rfl (by decide +kernel) ⟨Nat.le_of_ble_eq_true rfl, Nat.le_of_ble_eq_true rfl⟩) ⟨yBs_blind, va_recv hK (yP_l hP3) (ci := 5) (q0 := 0) rfl rfl, fun U hU hW => ⟨rfl, by rw [hU], by rw [hU]; exact yP_l hP3, va_K.moved hW.alike hK⟩⟩ rfl rfl hl.1 rfl (lv_room (Nat.le_of_ble_eq_true rfl)) dL_law_839 ⟨show cells + 1 + 0 ≤ 3132 by omega, show slots + 6 + 0 ≤ 120728 by omega⟩) hP3 hD3 hA hS (fun r2 u2 H2 locs2 hq hP hS => ?_)
  have hq9 : (o_row 2 32 (xs (i + 1)) R n1) = (o_row 2 32 (xs (i + 1)) M n1) := rel_row hY.2 hY.2.e2
  have ec : ((o_row 2 32 (xs (i + 1)) R n1)).1 = ((o_row 2 32 (xs (i + 1)) M n1)).1 := congrArg Prod.fst hq9
  have ea : ((o_row 2 32 (xs (i + 1)) R n1)).2 = ((o_row 2 32 (xs (i + 1)) M n1)).2 := congrArg (fun z => z.2) hq9
  have hP : va_P G vwCl (W3 k a3 C n0 R n1 d ((o_row 2 32 (xs (i + 1)) R n1).1) ++ (WL k oL fL1 h a c C n0 M ds n1 d ++ [(oD, .inl (k 4, 1, .inr (.inr (.inr (.inl fD)))))])) H2 := hP
  refine lv_istore (lv' := [(7, .int r2), (0, .ref b), (1, .ref h), (2, .ref (a3 0)), (3, .ref oL), (4, .ref oD), (5, .int (nI i)), (6, .int r)]) hx hb dL_law_842 hl (by decide) rfl (fun ls hl => ?_)
  have hl := lv_sub (l' := [(0, .ref b), (1, .ref h), (2, .ref (a3 0)), (3, .ref oL), (4, .ref oD), (5, .int (nI i)), (6, .int r), (7, .int r2)]) hl [1, 2, 3, 4, 5, 6, 7, 0] rfl
  refine lv_aload_n hx hb dL_law_844 rfl (lv_at hl 2 rfl) ?_
  refine y_roV (As := []) (rest := []) ⟨hx, hb, hml, hown, hts⟩ (c_X3_thrown l G k a3 C n0 R n1 d ((o_row 2 32 (xs (i + 1)) R n1).1)) (cwV 0 hts gL_law_X3_thrown rfl rfl rfl (by decide +kernel) ⟨Nat.le_of_ble_eq_true rfl, Nat.le_of_ble_eq_true rfl⟩) hK (yP_l hP) (va_recv hK (yP_l hP) (ci := 5) (q0 := 0) rfl rfl) rfl hl.1 rfl (Nat.le_of_ble_eq_true rfl) dL_law_845 ⟨show cells + 1 + 0 ≤ 3132 by omega, show slots + 6 + 0 ≤ 120728 by omega⟩ (fun r3 hr3 => ?_)
  refine lv_iload hx hb dL_law_848 (lv_at hl 6 rfl) ?_
  refine lv_icmp_eq (tgt := 855) hx hb dL_law_850 (by decide) (fun c1 => ?_) (fun c1 => absurd (hr3.trans (ec.trans hp1.symm)) c1)
  have hPf : va_P G vwCl (WA k oL fL1 oD fD h a c a3 C n0 M ds n1 d R ((o_row 2 32 (xs (i + 1)) R n1).1)) H2 := hP.sub [16, 17, 18, 19, 20, 21, 22, 23, 24, 25, 26, 27, 28, 29, 30, 31, 32, 33, 34, 35, 36, 37, 0, 1, 2, 3, 4, 5, 6, 7, 8, 9, 10, 11, 12, 13, 14, 15] rfl
  have hYf : yY C n0 M ds n1 d R := hY
  have fin : W p l e room_1 s m #[Value.ref b] below meth c_ H2 locs2 (cells + 1 + 0) (slots + 6 + 0) Q (F0 m 872 ls []) := by
    refine lv_goto (tgt := 1724) hx hb dL_law_872 (by decide) ?_
    refine W.widen (k := cells + 6) (n := slots + 36) (by omega) (by omega) ?_
    exact kk hPf hYf hS (lv_sub hl [0, 1, 2, 3, 4, 5] rfl)
  refine lv_iload hx hb dL_law_855 (lv_at hl 6 rfl) ?_
  refine lv_if_ne (tgt := 872) hx hb dL_law_857 (by decide) (fun _ => fin) (fun c2 => ?_)
  have h0 := hp2 (by rw [← hp1]; exact c2)
  refine lv_aload_n hx hb dL_law_860 rfl (lv_at hl 3 rfl) ?_
  refine lv_iconst (v := 0) hx hb dL_law_861 (by decide) ?_
  refine va_lald hx hb hK hPf 0 3 rfl rfl (vp_in_nI (n := 0) (N := 1) (by decide) (by decide)) dL_law_862 ?_
  refine lv_iload hx hb dL_law_863 (lv_at hl 7 rfl) ?_
  refine lv_i2l (v := r2.toInt64) hx hb dL_law_865 rfl ?_
  refine y_lcmp hx hb (by show fL1 0 = _; rw [h0, hq, ea]) dL_law_866 ?_
  exact lv_if_eq (tgt := 872) hx hb dL_law_867 (by decide) (fun _ => fin) (fun c3 => absurd rfl c3)
set_option maxHeartbeats 4000000 in
set_option maxRecDepth 100000 in
theorem law_tries {p : Program} {l : Launch} {e : Env} {s : State} {m : MethodId} {below : List Frame} {meth : Method} {c_ : Code} {b L : Nat} {xs : Nat → Int32} {G : va_G} {k : Nat → ClassId} {oL oD h : Nat} {a c a3 : Nat → Nat} (F : LF p l s m meth c_ b L xs G k) {i : Nat} (hi : i + 7 ≤ L) {cells slots : Nat} (hc : cells + 6 ≤ 3132 ∧ slots + 36 ≤ 120728) {Q : State → Prop} {fL : Nat → Int64} {fD : Nat → UInt64} {C : Nat → Nat → Int32} {n0 : Nat} {M : Nat → Nat → Int32} {ds n1 d : Nat} {R : Nat → Nat → Int32} {th : Int32} {H : Heap} {locs : List Loc} (hP : va_P G vwCl (WA k oL fL oD fD h a c a3 C n0 M ds n1 d R th) H) (hD : va_D (fun q : Nat => s.heap.size ≤ q) (WA k oL fL oD fD h a c a3 C n0 M ds n1 d R th)) (hY : yY C n0 M ds n1 d R) (hS : va_S (fun q : Nat => s.heap.size ≤ q) s.heap H locs) {ls : Array Slot} (hl : lv_has ls 9 [(0, .ref b), (1, .ref h), (2, .ref (a3 0)), (3, .ref oL), (4, .ref oD), (5, .int (nI i))]) (kk : LK p l e s m below meth c_ b G k oL oD h a c a3 i cells slots Q) : W p l e room_1 s m #[Value.ref b] below meth c_ H locs cells slots Q (F0 m 875 ls []) := by
  obtain ⟨hx, hb, hr, hml, hown, hts, hX, hbl, hL, hK, hE, hNC, hl9⟩ := F
  have hA : ∀ q : Nat, s.heap.size ≤ q → (fun q : Nat => s.heap.size ≤ q) q := fun _ h => h
  have hbA : ¬ (fun q : Nat => s.heap.size ≤ q) b := Nat.not_le.mpr hbl
  have hn := hY.1.1
  have hn1 := hY.1.2.1
  have hC := hY.1.2.2.2.1
  have hw : ∀ z, z < n0 → C 4 z = 0 ∨ C 4 z = 1 := fun z _ => hY.1.2.2.2.2.1 z
  have hE1 : yEV0 s H := yEV0_kept hE ⟨hS.1, hS.2.1, fun q hq => nomatch hq⟩ (fun q h1 h2 => absurd h1 (Nat.not_lt.mpr h2))
  refine lv_aload_n hx hb dL_law_875 rfl (lv_at hl 1 rfl) ?_
  refine y_scr (j := 1) (n1 := 1) hx hb hX hbl hbA hS hl rfl rfl (by omega) (by omega) dL_law_876 dL_law_877 (fun st k9 => lv_iconst (v := nI 1) hx hb dL_law_879 (by decide) k9) dL_law_880 dL_law_881 ?_
  refine lv_aload_n hx hb dL_law_882 rfl (lv_at hl 3 rfl) ?_
  refine y_lcall (w2 := ((oD, .inl (k 4, 1, .inr (.inr (.inr (.inl fD))))) :: W3 k a3 C n0 R n1 d th)) (vx_runSW (As := [.ref h, .int (xs (i + 1)), .ref oL]) (rest := []) ⟨hx, hb, hml, hown, hts⟩ (c_L_tries l hl9 G k h a c C n0 M ds n1 d oL fL H.size (xs (i + 1)) ((yD_l hD).weaken (fun _ _ _ _ => trivial)) hn1) (vx_cwSW 3 hts gL_law_L_tries rfl rfl rfl (by decide +kernel) ⟨Nat.le_of_ble_eq_true rfl, Nat.le_of_ble_eq_true rfl⟩) ⟨yL_blind, fun U hU hW => ⟨rfl, by rw [hU], by rw [hU]; exact yP_l hP, va_K.moved hW.alike hK, yEV_at hE1 hU hW, fun z hz => va_Nc.moved hW.alike (hNC z hz)⟩⟩ rfl rfl hl.1 rfl (lv_room (Nat.le_of_ble_eq_true rfl)) dL_law_883 ⟨show cells + 1 ≤ 3132 by omega, show slots + 6 ≤ 120728 by omega⟩) hP hD hA hS (fun r fL1 H1 locs1 hp hP hS => ?_)
  obtain ⟨hp1, hp2⟩ := hp
  have hP : va_P G vwCl (WL k oL fL1 h a c C n0 M ds n1 d ++ ((oD, .inl (k 4, 1, .inr (.inr (.inr (.inl fD))))) :: W3 k a3 C n0 R n1 d th)) H1 := hP
  refine lv_istore (lv' := [(6, .int r), (0, .ref b), (1, .ref h), (2, .ref (a3 0)), (3, .ref oL), (4, .ref oD), (5, .int (nI i))]) hx hb dL_law_886 hl (by decide) rfl (fun ls hl => ?_)
  have hl := lv_sub (l' := [(0, .ref b), (1, .ref h), (2, .ref (a3 0)), (3, .ref oL), (4, .ref oD), (5, .int (nI i)), (6, .int r)]) hl [1, 2, 3, 4, 5, 6, 0] rfl
  refine lv_aload_n hx hb dL_law_888 rfl (lv_at hl 2 rfl) ?_
  refine y_scr (j := 1) (n1 := 1) hx hb hX hbl hbA hS hl rfl rfl (by omega) (by omega) dL_law_889 dL_law_890 (fun st k9 => lv_iconst (v := nI 1) hx hb dL_law_892 (by decide) k9) dL_law_893 dL_law_894 ?_
  have hP3 : va_P G vwCl (W3 k a3 C n0 R n1 d th ++ (WL k oL fL1 h a c C n0 M ds n1 d ++ [(oD, .inl (k 4, 1, .inr (.inr (.inr (.inl fD)))))])) H1 := hP.sub [22, 23, 24, 25, 26, 27, 28, 29, 30, 31, 32, 33, 34, 35, 36, 37, 0, 1, 2, 3, 4, 5, 6, 7, 8, 9, 10, 11, 12, 13, 14, 15, 16, 17, 18, 19, 20, 21] rfl
  have hD3 : va_D (fun q : Nat => s.heap.size ≤ q) (W3 k a3 C n0 R n1 d th ++ (WL k oL fL1 h a c C n0 M ds n1 d ++ [(oD, .inl (k 4, 1, .inr (.inr (.inr (.inl fD)))))])) := yD (hD.sub (ws' := W3 k a3 C n0 R n1 d th ++ (WL k oL fL h a c C n0 M ds n1 d ++ [(oD, .inl (k 4, 1, .inr (.inr (.inr (.inl fD)))))])) [22, 23, 24, 25, 26, 27, 28, 29, 30, 31, 32, 33, 34, 35, 36, 37, 0, 1, 2, 3, 4, 5, 6, 7, 8, 9, 10, 11, 12, 13, 14, 15, 16, 17, 18, 19, 20, 21] (by decide) rfl) rfl
  refine y_lcall (w1 := W3 k a3 C n0 R n1 d th) (w2 := (WL k oL fL1 h a c C n0 M ds n1 d ++ [(oD, .inl (k 4, 1, .inr (.inr (.inr (.inl fD)))))])) (va_runV (As := [.int (xs (i + 1))]) (rest := []) ⟨hx, hb, hml, hown, hts⟩ (c_X3_tries l G k a3 C n0 R n1 d th H1.size (xs (i + 1)) ((yD_l hD3).weaken (fun _ _ _ _ => trivial)) hn1) (cwV 1 hts gL_law_X3_tries rfl rfl rfl (by decide +kernel) ⟨Nat.le_of_ble_eq_true rfl, Nat.le_of_ble_eq_true rfl⟩) ⟨yBs_blind, va_recv hK (yP_l hP3) (ci := 5) (q0 := 0) rfl rfl, fun U hU hW => ⟨rfl, by rw [hU], by rw [hU]; exact yP_l hP3, va_K.moved hW.alike hK⟩⟩ rfl rfl hl.1 rfl (lv_room (Nat.le_of_ble_eq_true rfl)) dL_law_895 ⟨show cells + 1 + 0 ≤ 3132 by omega, show slots + 6 + 0 ≤ 120728 by omega⟩) hP3 hD3 hA hS (fun r2 u2 H2 locs2 hq hP hS => ?_)
  have hq9 : (o_row 7 0 (xs (i + 1)) R n1) = (o_row 7 0 (xs (i + 1)) M n1) := rel_row hY.2 hY.2.e7
  have ec : ((o_row 7 0 (xs (i + 1)) R n1)).1 = ((o_row 7 0 (xs (i + 1)) M n1)).1 := congrArg Prod.fst hq9
  have ea : ((o_row 7 0 (xs (i + 1)) R n1)).2 = ((o_row 7 0 (xs (i + 1)) M n1)).2 := congrArg (fun z => z.2) hq9
  have hP : va_P G vwCl (W3 k a3 C n0 R n1 d ((o_row 7 0 (xs (i + 1)) R n1).1) ++ (WL k oL fL1 h a c C n0 M ds n1 d ++ [(oD, .inl (k 4, 1, .inr (.inr (.inr (.inl fD)))))])) H2 := hP
  refine lv_istore (lv' := [(7, .int r2), (0, .ref b), (1, .ref h), (2, .ref (a3 0)), (3, .ref oL), (4, .ref oD), (5, .int (nI i)), (6, .int r)]) hx hb dL_law_898 hl (by decide) rfl (fun ls hl => ?_)
  have hl := lv_sub (l' := [(0, .ref b), (1, .ref h), (2, .ref (a3 0)), (3, .ref oL), (4, .ref oD), (5, .int (nI i)), (6, .int r), (7, .int r2)]) hl [1, 2, 3, 4, 5, 6, 7, 0] rfl
  refine lv_aload_n hx hb dL_law_900 rfl (lv_at hl 2 rfl) ?_
  refine y_roV (As := []) (rest := []) ⟨hx, hb, hml, hown, hts⟩ (c_X3_thrown l G k a3 C n0 R n1 d ((o_row 7 0 (xs (i + 1)) R n1).1)) (cwV 0 hts gL_law_X3_thrown rfl rfl rfl (by decide +kernel) ⟨Nat.le_of_ble_eq_true rfl, Nat.le_of_ble_eq_true rfl⟩) hK (yP_l hP) (va_recv hK (yP_l hP) (ci := 5) (q0 := 0) rfl rfl) rfl hl.1 rfl (Nat.le_of_ble_eq_true rfl) dL_law_901 ⟨show cells + 1 + 0 ≤ 3132 by omega, show slots + 6 + 0 ≤ 120728 by omega⟩ (fun r3 hr3 => ?_)
  refine lv_iload hx hb dL_law_904 (lv_at hl 6 rfl) ?_
  refine lv_icmp_eq (tgt := 911) hx hb dL_law_906 (by decide) (fun c1 => ?_) (fun c1 => absurd (hr3.trans (ec.trans hp1.symm)) c1)
  have hPf : va_P G vwCl (WA k oL fL1 oD fD h a c a3 C n0 M ds n1 d R ((o_row 7 0 (xs (i + 1)) R n1).1)) H2 := hP.sub [16, 17, 18, 19, 20, 21, 22, 23, 24, 25, 26, 27, 28, 29, 30, 31, 32, 33, 34, 35, 36, 37, 0, 1, 2, 3, 4, 5, 6, 7, 8, 9, 10, 11, 12, 13, 14, 15] rfl
  have hYf : yY C n0 M ds n1 d R := hY
  have fin : W p l e room_1 s m #[Value.ref b] below meth c_ H2 locs2 (cells + 1 + 0) (slots + 6 + 0) Q (F0 m 928 ls []) := by
    refine lv_goto (tgt := 1724) hx hb dL_law_928 (by decide) ?_
    refine W.widen (k := cells + 6) (n := slots + 36) (by omega) (by omega) ?_
    exact kk hPf hYf hS (lv_sub hl [0, 1, 2, 3, 4, 5] rfl)
  refine lv_iload hx hb dL_law_911 (lv_at hl 6 rfl) ?_
  refine lv_if_ne (tgt := 928) hx hb dL_law_913 (by decide) (fun _ => fin) (fun c2 => ?_)
  have h0 := hp2 (by rw [← hp1]; exact c2)
  refine lv_aload_n hx hb dL_law_916 rfl (lv_at hl 3 rfl) ?_
  refine lv_iconst (v := 0) hx hb dL_law_917 (by decide) ?_
  refine va_lald hx hb hK hPf 0 3 rfl rfl (vp_in_nI (n := 0) (N := 1) (by decide) (by decide)) dL_law_918 ?_
  refine lv_iload hx hb dL_law_919 (lv_at hl 7 rfl) ?_
  refine lv_i2l (v := r2.toInt64) hx hb dL_law_921 rfl ?_
  refine y_lcmp hx hb (by show fL1 0 = _; rw [h0, hq, ea]) dL_law_922 ?_
  exact lv_if_eq (tgt := 928) hx hb dL_law_923 (by decide) (fun _ => fin) (fun c3 => absurd rfl c3)
set_option maxHeartbeats 4000000 in
set_option maxRecDepth 100000 in
theorem law_readyAt {p : Program} {l : Launch} {e : Env} {s : State} {m : MethodId} {below : List Frame} {meth : Method} {c_ : Code} {b L : Nat} {xs : Nat → Int32} {G : va_G} {k : Nat → ClassId} {oL oD h : Nat} {a c a3 : Nat → Nat} (F : LF p l s m meth c_ b L xs G k) {i : Nat} (hi : i + 7 ≤ L) {cells slots : Nat} (hc : cells + 6 ≤ 3132 ∧ slots + 36 ≤ 120728) {Q : State → Prop} {fL : Nat → Int64} {fD : Nat → UInt64} {C : Nat → Nat → Int32} {n0 : Nat} {M : Nat → Nat → Int32} {ds n1 d : Nat} {R : Nat → Nat → Int32} {th : Int32} {H : Heap} {locs : List Loc} (hP : va_P G vwCl (WA k oL fL oD fD h a c a3 C n0 M ds n1 d R th) H) (hD : va_D (fun q : Nat => s.heap.size ≤ q) (WA k oL fL oD fD h a c a3 C n0 M ds n1 d R th)) (hY : yY C n0 M ds n1 d R) (hS : va_S (fun q : Nat => s.heap.size ≤ q) s.heap H locs) {ls : Array Slot} (hl : lv_has ls 9 [(0, .ref b), (1, .ref h), (2, .ref (a3 0)), (3, .ref oL), (4, .ref oD), (5, .int (nI i))]) (kk : LK p l e s m below meth c_ b G k oL oD h a c a3 i cells slots Q) : W p l e room_1 s m #[Value.ref b] below meth c_ H locs cells slots Q (F0 m 931 ls []) := by
  obtain ⟨hx, hb, hr, hml, hown, hts, hX, hbl, hL, hK, hE, hNC, hl9⟩ := F
  have hA : ∀ q : Nat, s.heap.size ≤ q → (fun q : Nat => s.heap.size ≤ q) q := fun _ h => h
  have hbA : ¬ (fun q : Nat => s.heap.size ≤ q) b := Nat.not_le.mpr hbl
  have hn := hY.1.1
  have hn1 := hY.1.2.1
  have hC := hY.1.2.2.2.1
  have hw : ∀ z, z < n0 → C 4 z = 0 ∨ C 4 z = 1 := fun z _ => hY.1.2.2.2.2.1 z
  have hE1 : yEV0 s H := yEV0_kept hE ⟨hS.1, hS.2.1, fun q hq => nomatch hq⟩ (fun q h1 h2 => absurd h1 (Nat.not_lt.mpr h2))
  refine lv_aload_n hx hb dL_law_931 rfl (lv_at hl 1 rfl) ?_
  refine y_scr (j := 1) (n1 := 1) hx hb hX hbl hbA hS hl rfl rfl (by omega) (by omega) dL_law_932 dL_law_933 (fun st k9 => lv_iconst (v := nI 1) hx hb dL_law_935 (by decide) k9) dL_law_936 dL_law_937 ?_
  refine lv_aload_n hx hb dL_law_938 rfl (lv_at hl 3 rfl) ?_
  refine y_lcall (w2 := ((oD, .inl (k 4, 1, .inr (.inr (.inr (.inl fD))))) :: W3 k a3 C n0 R n1 d th)) (vx_runSW (As := [.ref h, .int (xs (i + 1)), .ref oL]) (rest := []) ⟨hx, hb, hml, hown, hts⟩ (c_L_readyAt l hl9 G k h a c C n0 M ds n1 d oL fL H.size (xs (i + 1)) ((yD_l hD).weaken (fun _ _ _ _ => trivial)) hn1) (vx_cwSW 3 hts gL_law_L_readyAt rfl rfl rfl (by decide +kernel) ⟨Nat.le_of_ble_eq_true rfl, Nat.le_of_ble_eq_true rfl⟩) ⟨yL_blind, fun U hU hW => ⟨rfl, by rw [hU], by rw [hU]; exact yP_l hP, va_K.moved hW.alike hK, yEV_at hE1 hU hW, fun z hz => va_Nc.moved hW.alike (hNC z hz)⟩⟩ rfl rfl hl.1 rfl (lv_room (Nat.le_of_ble_eq_true rfl)) dL_law_939 ⟨show cells + 2 ≤ 3132 by omega, show slots + 12 ≤ 120728 by omega⟩) hP hD hA hS (fun r fL1 H1 locs1 hp hP hS => ?_)
  obtain ⟨hp1, hp2⟩ := hp
  have hP : va_P G vwCl (WL k oL fL1 h a c C n0 M ds n1 d ++ ((oD, .inl (k 4, 1, .inr (.inr (.inr (.inl fD))))) :: W3 k a3 C n0 R n1 d th)) H1 := hP
  refine lv_istore (lv' := [(6, .int r), (0, .ref b), (1, .ref h), (2, .ref (a3 0)), (3, .ref oL), (4, .ref oD), (5, .int (nI i))]) hx hb dL_law_942 hl (by decide) rfl (fun ls hl => ?_)
  have hl := lv_sub (l' := [(0, .ref b), (1, .ref h), (2, .ref (a3 0)), (3, .ref oL), (4, .ref oD), (5, .int (nI i)), (6, .int r)]) hl [1, 2, 3, 4, 5, 6, 0] rfl
  refine lv_aload_n hx hb dL_law_944 rfl (lv_at hl 2 rfl) ?_
  refine y_scr (j := 1) (n1 := 1) hx hb hX hbl hbA hS hl rfl rfl (by omega) (by omega) dL_law_945 dL_law_946 (fun st k9 => lv_iconst (v := nI 1) hx hb dL_law_948 (by decide) k9) dL_law_949 dL_law_950 ?_
  have hP3 : va_P G vwCl (W3 k a3 C n0 R n1 d th ++ (WL k oL fL1 h a c C n0 M ds n1 d ++ [(oD, .inl (k 4, 1, .inr (.inr (.inr (.inl fD)))))])) H1 := hP.sub [22, 23, 24, 25, 26, 27, 28, 29, 30, 31, 32, 33, 34, 35, 36, 37, 0, 1, 2, 3, 4, 5, 6, 7, 8, 9, 10, 11, 12, 13, 14, 15, 16, 17, 18, 19, 20, 21] rfl
  have hD3 : va_D (fun q : Nat => s.heap.size ≤ q) (W3 k a3 C n0 R n1 d th ++ (WL k oL fL1 h a c C n0 M ds n1 d ++ [(oD, .inl (k 4, 1, .inr (.inr (.inr (.inl fD)))))])) := yD (hD.sub (ws' := W3 k a3 C n0 R n1 d th ++ (WL k oL fL h a c C n0 M ds n1 d ++ [(oD, .inl (k 4, 1, .inr (.inr (.inr (.inl fD)))))])) [22, 23, 24, 25, 26, 27, 28, 29, 30, 31, 32, 33, 34, 35, 36, 37, 0, 1, 2, 3, 4, 5, 6, 7, 8, 9, 10, 11, 12, 13, 14, 15, 16, 17, 18, 19, 20, 21] (by decide) rfl) rfl
  refine y_lcall (w1 := W3 k a3 C n0 R n1 d th) (w2 := (WL k oL fL1 h a c C n0 M ds n1 d ++ [(oD, .inl (k 4, 1, .inr (.inr (.inr (.inl fD)))))])) (va_runV (As := [.int (xs (i + 1))]) (rest := []) ⟨hx, hb, hml, hown, hts⟩ (c_X3_readyAt l G k a3 C n0 R n1 d th H1.size (xs (i + 1)) ((yD_l hD3).weaken (fun _ _ _ _ => trivial)) hn1) (cwV 1 hts gL_law_X3_readyAt rfl rfl rfl (by decide +kernel) ⟨Nat.le_of_ble_eq_true rfl, Nat.le_of_ble_eq_true rfl⟩) ⟨yBs_blind, va_recv hK (yP_l hP3) (ci := 5) (q0 := 0) rfl rfl, fun U hU hW => ⟨rfl, by rw [hU], by rw [hU]; exact yP_l hP3, va_K.moved hW.alike hK⟩⟩ rfl rfl hl.1 rfl (lv_room (Nat.le_of_ble_eq_true rfl)) dL_law_951 ⟨show cells + 2 + 0 ≤ 3132 by omega, show slots + 12 + 0 ≤ 120728 by omega⟩) hP3 hD3 hA hS (fun r2 u2 H2 locs2 hq hP hS => ?_)
  have hq9 : (o_rowIf 6 119 (xs (i + 1)) R n1) = (o_rowIf 6 119 (xs (i + 1)) M n1) := rel_rowIf6 hY.2 (by decide)
  have ec : ((o_rowIf 6 119 (xs (i + 1)) R n1)).1 = ((o_rowIf 6 119 (xs (i + 1)) M n1)).1 := congrArg Prod.fst hq9
  have ea : ((o_rowIf 6 119 (xs (i + 1)) R n1)).2 = ((o_rowIf 6 119 (xs (i + 1)) M n1)).2 := congrArg (fun z => z.2) hq9
  have hP : va_P G vwCl (W3 k a3 C n0 R n1 d ((o_rowIf 6 119 (xs (i + 1)) R n1).1) ++ (WL k oL fL1 h a c C n0 M ds n1 d ++ [(oD, .inl (k 4, 1, .inr (.inr (.inr (.inl fD)))))])) H2 := hP
  refine lv_istore (lv' := [(7, .int r2), (0, .ref b), (1, .ref h), (2, .ref (a3 0)), (3, .ref oL), (4, .ref oD), (5, .int (nI i)), (6, .int r)]) hx hb dL_law_954 hl (by decide) rfl (fun ls hl => ?_)
  have hl := lv_sub (l' := [(0, .ref b), (1, .ref h), (2, .ref (a3 0)), (3, .ref oL), (4, .ref oD), (5, .int (nI i)), (6, .int r), (7, .int r2)]) hl [1, 2, 3, 4, 5, 6, 7, 0] rfl
  refine lv_aload_n hx hb dL_law_956 rfl (lv_at hl 2 rfl) ?_
  refine y_roV (As := []) (rest := []) ⟨hx, hb, hml, hown, hts⟩ (c_X3_thrown l G k a3 C n0 R n1 d ((o_rowIf 6 119 (xs (i + 1)) R n1).1)) (cwV 0 hts gL_law_X3_thrown rfl rfl rfl (by decide +kernel) ⟨Nat.le_of_ble_eq_true rfl, Nat.le_of_ble_eq_true rfl⟩) hK (yP_l hP) (va_recv hK (yP_l hP) (ci := 5) (q0 := 0) rfl rfl) rfl hl.1 rfl (Nat.le_of_ble_eq_true rfl) dL_law_957 ⟨show cells + 2 + 0 ≤ 3132 by omega, show slots + 12 + 0 ≤ 120728 by omega⟩ (fun r3 hr3 => ?_)
  refine lv_iload hx hb dL_law_960 (lv_at hl 6 rfl) ?_
  refine lv_icmp_eq (tgt := 967) hx hb dL_law_962 (by decide) (fun c1 => ?_) (fun c1 => absurd (hr3.trans (ec.trans hp1.symm)) c1)
  have hPf : va_P G vwCl (WA k oL fL1 oD fD h a c a3 C n0 M ds n1 d R ((o_rowIf 6 119 (xs (i + 1)) R n1).1)) H2 := hP.sub [16, 17, 18, 19, 20, 21, 22, 23, 24, 25, 26, 27, 28, 29, 30, 31, 32, 33, 34, 35, 36, 37, 0, 1, 2, 3, 4, 5, 6, 7, 8, 9, 10, 11, 12, 13, 14, 15] rfl
  have hYf : yY C n0 M ds n1 d R := hY
  have fin : W p l e room_1 s m #[Value.ref b] below meth c_ H2 locs2 (cells + 2 + 0) (slots + 12 + 0) Q (F0 m 984 ls []) := by
    refine lv_goto (tgt := 1724) hx hb dL_law_984 (by decide) ?_
    refine W.widen (k := cells + 6) (n := slots + 36) (by omega) (by omega) ?_
    exact kk hPf hYf hS (lv_sub hl [0, 1, 2, 3, 4, 5] rfl)
  refine lv_iload hx hb dL_law_967 (lv_at hl 6 rfl) ?_
  refine lv_if_ne (tgt := 984) hx hb dL_law_969 (by decide) (fun _ => fin) (fun c2 => ?_)
  have h0 := hp2 (by rw [← hp1]; exact c2)
  refine lv_aload_n hx hb dL_law_972 rfl (lv_at hl 3 rfl) ?_
  refine lv_iconst (v := 0) hx hb dL_law_973 (by decide) ?_
  refine va_lald hx hb hK hPf 0 3 rfl rfl (vp_in_nI (n := 0) (N := 1) (by decide) (by decide)) dL_law_974 ?_
  refine lv_iload hx hb dL_law_975 (lv_at hl 7 rfl) ?_
  refine lv_i2l (v := r2.toInt64) hx hb dL_law_977 rfl ?_
  refine y_lcmp hx hb (by show fL1 0 = _; rw [h0, hq, ea]) dL_law_978 ?_
  exact lv_if_eq (tgt := 984) hx hb dL_law_979 (by decide) (fun _ => fin) (fun c3 => absurd rfl c3)
set_option maxHeartbeats 4000000 in
set_option maxRecDepth 100000 in
theorem law_ready {p : Program} {l : Launch} {e : Env} {s : State} {m : MethodId} {below : List Frame} {meth : Method} {c_ : Code} {b L : Nat} {xs : Nat → Int32} {G : va_G} {k : Nat → ClassId} {oL oD h : Nat} {a c a3 : Nat → Nat} (F : LF p l s m meth c_ b L xs G k) {i : Nat} (hi : i + 7 ≤ L) {cells slots : Nat} (hc : cells + 6 ≤ 3132 ∧ slots + 36 ≤ 120728) {Q : State → Prop} {fL : Nat → Int64} {fD : Nat → UInt64} {C : Nat → Nat → Int32} {n0 : Nat} {M : Nat → Nat → Int32} {ds n1 d : Nat} {R : Nat → Nat → Int32} {th : Int32} {H : Heap} {locs : List Loc} (hP : va_P G vwCl (WA k oL fL oD fD h a c a3 C n0 M ds n1 d R th) H) (hD : va_D (fun q : Nat => s.heap.size ≤ q) (WA k oL fL oD fD h a c a3 C n0 M ds n1 d R th)) (hY : yY C n0 M ds n1 d R) (hS : va_S (fun q : Nat => s.heap.size ≤ q) s.heap H locs) {ls : Array Slot} (hl : lv_has ls 9 [(0, .ref b), (1, .ref h), (2, .ref (a3 0)), (3, .ref oL), (4, .ref oD), (5, .int (nI i))]) (kk : LK p l e s m below meth c_ b G k oL oD h a c a3 i cells slots Q) : W p l e room_1 s m #[Value.ref b] below meth c_ H locs cells slots Q (F0 m 987 ls []) := by
  obtain ⟨hx, hb, hr, hml, hown, hts, hX, hbl, hL, hK, hE, hNC, hl9⟩ := F
  have hA : ∀ q : Nat, s.heap.size ≤ q → (fun q : Nat => s.heap.size ≤ q) q := fun _ h => h
  have hbA : ¬ (fun q : Nat => s.heap.size ≤ q) b := Nat.not_le.mpr hbl
  have hn := hY.1.1
  have hn1 := hY.1.2.1
  have hC := hY.1.2.2.2.1
  have hw : ∀ z, z < n0 → C 4 z = 0 ∨ C 4 z = 1 := fun z _ => hY.1.2.2.2.2.1 z
  have hE1 : yEV0 s H := yEV0_kept hE ⟨hS.1, hS.2.1, fun q hq => nomatch hq⟩ (fun q h1 h2 => absurd h1 (Nat.not_lt.mpr h2))
  refine lv_aload_n hx hb dL_law_987 rfl (lv_at hl 1 rfl) ?_
  refine y_scr (j := 1) (n1 := 1) hx hb hX hbl hbA hS hl rfl rfl (by omega) (by omega) dL_law_988 dL_law_989 (fun st k9 => lv_iconst (v := nI 1) hx hb dL_law_991 (by decide) k9) dL_law_992 dL_law_993 ?_
  refine lv_aload_n hx hb dL_law_994 rfl (lv_at hl 3 rfl) ?_
  refine y_lcall (w2 := ((oD, .inl (k 4, 1, .inr (.inr (.inr (.inl fD))))) :: W3 k a3 C n0 R n1 d th)) (vx_runSW (As := [.ref h, .int (xs (i + 1)), .ref oL]) (rest := []) ⟨hx, hb, hml, hown, hts⟩ (c_L_ready l hl9 G k h a c C n0 M ds n1 d oL fL H.size (xs (i + 1)) ((yD_l hD).weaken (fun _ _ _ _ => trivial)) hn1) (vx_cwSW 3 hts gL_law_L_ready rfl rfl rfl (by decide +kernel) ⟨Nat.le_of_ble_eq_true rfl, Nat.le_of_ble_eq_true rfl⟩) ⟨yL_blind, fun U hU hW => ⟨rfl, by rw [hU], by rw [hU]; exact yP_l hP, va_K.moved hW.alike hK, yEV_at hE1 hU hW, fun z hz => va_Nc.moved hW.alike (hNC z hz)⟩⟩ rfl rfl hl.1 rfl (lv_room (Nat.le_of_ble_eq_true rfl)) dL_law_995 ⟨show cells + 1 ≤ 3132 by omega, show slots + 6 ≤ 120728 by omega⟩) hP hD hA hS (fun r fL1 H1 locs1 hp hP hS => ?_)
  obtain ⟨hp1, hp2⟩ := hp
  have hP : va_P G vwCl (WL k oL fL1 h a c C n0 M ds n1 d ++ ((oD, .inl (k 4, 1, .inr (.inr (.inr (.inl fD))))) :: W3 k a3 C n0 R n1 d th)) H1 := hP
  refine lv_istore (lv' := [(6, .int r), (0, .ref b), (1, .ref h), (2, .ref (a3 0)), (3, .ref oL), (4, .ref oD), (5, .int (nI i))]) hx hb dL_law_998 hl (by decide) rfl (fun ls hl => ?_)
  have hl := lv_sub (l' := [(0, .ref b), (1, .ref h), (2, .ref (a3 0)), (3, .ref oL), (4, .ref oD), (5, .int (nI i)), (6, .int r)]) hl [1, 2, 3, 4, 5, 6, 0] rfl
  refine lv_aload_n hx hb dL_law_1000 rfl (lv_at hl 2 rfl) ?_
  refine y_scr (j := 1) (n1 := 1) hx hb hX hbl hbA hS hl rfl rfl (by omega) (by omega) dL_law_1001 dL_law_1002 (fun st k9 => lv_iconst (v := nI 1) hx hb dL_law_1004 (by decide) k9) dL_law_1005 dL_law_1006 ?_
  have hP3 : va_P G vwCl (W3 k a3 C n0 R n1 d th ++ (WL k oL fL1 h a c C n0 M ds n1 d ++ [(oD, .inl (k 4, 1, .inr (.inr (.inr (.inl fD)))))])) H1 := hP.sub [22, 23, 24, 25, 26, 27, 28, 29, 30, 31, 32, 33, 34, 35, 36, 37, 0, 1, 2, 3, 4, 5, 6, 7, 8, 9, 10, 11, 12, 13, 14, 15, 16, 17, 18, 19, 20, 21] rfl
  have hD3 : va_D (fun q : Nat => s.heap.size ≤ q) (W3 k a3 C n0 R n1 d th ++ (WL k oL fL1 h a c C n0 M ds n1 d ++ [(oD, .inl (k 4, 1, .inr (.inr (.inr (.inl fD)))))])) := yD (hD.sub (ws' := W3 k a3 C n0 R n1 d th ++ (WL k oL fL h a c C n0 M ds n1 d ++ [(oD, .inl (k 4, 1, .inr (.inr (.inr (.inl fD)))))])) [22, 23, 24, 25, 26, 27, 28, 29, 30, 31, 32, 33, 34, 35, 36, 37, 0, 1, 2, 3, 4, 5, 6, 7, 8, 9, 10, 11, 12, 13, 14, 15, 16, 17, 18, 19, 20, 21] (by decide) rfl) rfl
  refine y_lcall (w1 := W3 k a3 C n0 R n1 d th) (w2 := (WL k oL fL1 h a c C n0 M ds n1 d ++ [(oD, .inl (k 4, 1, .inr (.inr (.inr (.inl fD)))))])) (va_runV (As := [.int (xs (i + 1))]) (rest := []) ⟨hx, hb, hml, hown, hts⟩ (c_X3_ready l G k a3 C n0 R n1 d th H1.size (xs (i + 1)) ((yD_l hD3).weaken (fun _ _ _ _ => trivial)) hn1) (cwV 1 hts gL_law_X3_ready rfl rfl rfl (by decide +kernel) ⟨Nat.le_of_ble_eq_true rfl, Nat.le_of_ble_eq_true rfl⟩) ⟨yBs_blind, va_recv hK (yP_l hP3) (ci := 5) (q0 := 0) rfl rfl, fun U hU hW => ⟨rfl, by rw [hU], by rw [hU]; exact yP_l hP3, va_K.moved hW.alike hK⟩⟩ rfl rfl hl.1 rfl (lv_room (Nat.le_of_ble_eq_true rfl)) dL_law_1007 ⟨show cells + 1 + 0 ≤ 3132 by omega, show slots + 6 + 0 ≤ 120728 by omega⟩) hP3 hD3 hA hS (fun r2 u2 H2 locs2 hq hP hS => ?_)
  have hq9 : (o_ready (xs (i + 1)) R n1 d) = (o_ready (xs (i + 1)) M n1 d) := rel_ready hY.2
  have ec : ((o_ready (xs (i + 1)) R n1 d)).1 = ((o_ready (xs (i + 1)) M n1 d)).1 := congrArg Prod.fst hq9
  have ea : ((o_ready (xs (i + 1)) R n1 d)).2 = ((o_ready (xs (i + 1)) M n1 d)).2 := congrArg (fun z => z.2) hq9
  have hP : va_P G vwCl (W3 k a3 C n0 R n1 d ((o_ready (xs (i + 1)) R n1 d).1) ++ (WL k oL fL1 h a c C n0 M ds n1 d ++ [(oD, .inl (k 4, 1, .inr (.inr (.inr (.inl fD)))))])) H2 := hP
  refine lv_istore (lv' := [(7, .int r2), (0, .ref b), (1, .ref h), (2, .ref (a3 0)), (3, .ref oL), (4, .ref oD), (5, .int (nI i)), (6, .int r)]) hx hb dL_law_1010 hl (by decide) rfl (fun ls hl => ?_)
  have hl := lv_sub (l' := [(0, .ref b), (1, .ref h), (2, .ref (a3 0)), (3, .ref oL), (4, .ref oD), (5, .int (nI i)), (6, .int r), (7, .int r2)]) hl [1, 2, 3, 4, 5, 6, 7, 0] rfl
  refine lv_aload_n hx hb dL_law_1012 rfl (lv_at hl 2 rfl) ?_
  refine y_roV (As := []) (rest := []) ⟨hx, hb, hml, hown, hts⟩ (c_X3_thrown l G k a3 C n0 R n1 d ((o_ready (xs (i + 1)) R n1 d).1)) (cwV 0 hts gL_law_X3_thrown rfl rfl rfl (by decide +kernel) ⟨Nat.le_of_ble_eq_true rfl, Nat.le_of_ble_eq_true rfl⟩) hK (yP_l hP) (va_recv hK (yP_l hP) (ci := 5) (q0 := 0) rfl rfl) rfl hl.1 rfl (Nat.le_of_ble_eq_true rfl) dL_law_1013 ⟨show cells + 1 + 0 ≤ 3132 by omega, show slots + 6 + 0 ≤ 120728 by omega⟩ (fun r3 hr3 => ?_)
  refine lv_iload hx hb dL_law_1016 (lv_at hl 6 rfl) ?_
  refine lv_icmp_eq (tgt := 1023) hx hb dL_law_1018 (by decide) (fun c1 => ?_) (fun c1 => absurd (hr3.trans (ec.trans hp1.symm)) c1)
  have hPf : va_P G vwCl (WA k oL fL1 oD fD h a c a3 C n0 M ds n1 d R ((o_ready (xs (i + 1)) R n1 d).1)) H2 := hP.sub [16, 17, 18, 19, 20, 21, 22, 23, 24, 25, 26, 27, 28, 29, 30, 31, 32, 33, 34, 35, 36, 37, 0, 1, 2, 3, 4, 5, 6, 7, 8, 9, 10, 11, 12, 13, 14, 15] rfl
  have hYf : yY C n0 M ds n1 d R := hY
  have fin : W p l e room_1 s m #[Value.ref b] below meth c_ H2 locs2 (cells + 1 + 0) (slots + 6 + 0) Q (F0 m 1040 ls []) := by
    refine lv_goto (tgt := 1724) hx hb dL_law_1040 (by decide) ?_
    refine W.widen (k := cells + 6) (n := slots + 36) (by omega) (by omega) ?_
    exact kk hPf hYf hS (lv_sub hl [0, 1, 2, 3, 4, 5] rfl)
  refine lv_iload hx hb dL_law_1023 (lv_at hl 6 rfl) ?_
  refine lv_if_ne (tgt := 1040) hx hb dL_law_1025 (by decide) (fun _ => fin) (fun c2 => ?_)
  have h0 := hp2 (by rw [← hp1]; exact c2)
  refine lv_aload_n hx hb dL_law_1028 rfl (lv_at hl 3 rfl) ?_
  refine lv_iconst (v := 0) hx hb dL_law_1029 (by decide) ?_
  refine va_lald hx hb hK hPf 0 3 rfl rfl (vp_in_nI (n := 0) (N := 1) (by decide) (by decide)) dL_law_1030 ?_
  refine lv_iload hx hb dL_law_1031 (lv_at hl 7 rfl) ?_
  refine lv_i2l (v := r2.toInt64) hx hb dL_law_1033 rfl ?_
  refine y_lcmp hx hb (by show fL1 0 = _; rw [h0, hq, ea]) dL_law_1034 ?_
  exact lv_if_eq (tgt := 1040) hx hb dL_law_1035 (by decide) (fun _ => fin) (fun c3 => absurd rfl c3)
set_option maxHeartbeats 4000000 in
set_option maxRecDepth 100000 in
theorem law_readyAtPlace {p : Program} {l : Launch} {e : Env} {s : State} {m : MethodId} {below : List Frame} {meth : Method} {c_ : Code} {b L : Nat} {xs : Nat → Int32} {G : va_G} {k : Nat → ClassId} {oL oD h : Nat} {a c a3 : Nat → Nat} (F : LF p l s m meth c_ b L xs G k) {i : Nat} (hi : i + 7 ≤ L) {cells slots : Nat} (hc : cells + 6 ≤ 3132 ∧ slots + 36 ≤ 120728) {Q : State → Prop} {fL : Nat → Int64} {fD : Nat → UInt64} {C : Nat → Nat → Int32} {n0 : Nat} {M : Nat → Nat → Int32} {ds n1 d : Nat} {R : Nat → Nat → Int32} {th : Int32} {H : Heap} {locs : List Loc} (hP : va_P G vwCl (WA k oL fL oD fD h a c a3 C n0 M ds n1 d R th) H) (hD : va_D (fun q : Nat => s.heap.size ≤ q) (WA k oL fL oD fD h a c a3 C n0 M ds n1 d R th)) (hY : yY C n0 M ds n1 d R) (hS : va_S (fun q : Nat => s.heap.size ≤ q) s.heap H locs) {ls : Array Slot} (hl : lv_has ls 9 [(0, .ref b), (1, .ref h), (2, .ref (a3 0)), (3, .ref oL), (4, .ref oD), (5, .int (nI i))]) (kk : LK p l e s m below meth c_ b G k oL oD h a c a3 i cells slots Q) : W p l e room_1 s m #[Value.ref b] below meth c_ H locs cells slots Q (F0 m 1043 ls []) := by
  obtain ⟨hx, hb, hr, hml, hown, hts, hX, hbl, hL, hK, hE, hNC, hl9⟩ := F
  have hA : ∀ q : Nat, s.heap.size ≤ q → (fun q : Nat => s.heap.size ≤ q) q := fun _ h => h
  have hbA : ¬ (fun q : Nat => s.heap.size ≤ q) b := Nat.not_le.mpr hbl
  have hn := hY.1.1
  have hn1 := hY.1.2.1
  have hC := hY.1.2.2.2.1
  have hw : ∀ z, z < n0 → C 4 z = 0 ∨ C 4 z = 1 := fun z _ => hY.1.2.2.2.2.1 z
  have hE1 : yEV0 s H := yEV0_kept hE ⟨hS.1, hS.2.1, fun q hq => nomatch hq⟩ (fun q h1 h2 => absurd h1 (Nat.not_lt.mpr h2))
  refine lv_aload_n hx hb dL_law_1043 rfl (lv_at hl 1 rfl) ?_
  refine y_scr (j := 1) (n1 := 1) hx hb hX hbl hbA hS hl rfl rfl (by omega) (by omega) dL_law_1044 dL_law_1045 (fun st k9 => lv_iconst (v := nI 1) hx hb dL_law_1047 (by decide) k9) dL_law_1048 dL_law_1049 ?_
  refine y_scr (j := 2) (n1 := 1) hx hb hX hbl hbA hS hl rfl rfl (by omega) (by omega) dL_law_1050 dL_law_1051 (fun st k9 => lv_iconst (v := nI 2) hx hb dL_law_1053 (by decide) k9) dL_law_1054 dL_law_1055 ?_
  refine lv_aload_n hx hb dL_law_1056 rfl (lv_at hl 3 rfl) ?_
  refine y_lcall (w2 := ((oD, .inl (k 4, 1, .inr (.inr (.inr (.inl fD))))) :: W3 k a3 C n0 R n1 d th)) (vx_runSW (As := [.ref h, .int (xs (i + 1)), .int (xs (i + 2)), .ref oL]) (rest := []) ⟨hx, hb, hml, hown, hts⟩ (c_L_readyAtPlace l hl9 G k h a c C n0 M ds n1 d oL fL H.size (xs (i + 1)) (xs (i + 2)) ((yD_l hD).weaken (fun _ _ _ _ => trivial)) hn1) (vx_cwSW 4 hts gL_law_L_readyAtPlace rfl rfl rfl (by decide +kernel) ⟨Nat.le_of_ble_eq_true rfl, Nat.le_of_ble_eq_true rfl⟩) ⟨yL_blind, fun U hU hW => ⟨rfl, by rw [hU], by rw [hU]; exact yP_l hP, va_K.moved hW.alike hK, yEV_at hE1 hU hW, fun z hz => va_Nc.moved hW.alike (hNC z hz)⟩⟩ rfl rfl hl.1 rfl (lv_room (Nat.le_of_ble_eq_true rfl)) dL_law_1057 ⟨show cells + 2 ≤ 3132 by omega, show slots + 12 ≤ 120728 by omega⟩) hP hD hA hS (fun r fL1 H1 locs1 hp hP hS => ?_)
  obtain ⟨hp1, hp2⟩ := hp
  have hP : va_P G vwCl (WL k oL fL1 h a c C n0 M ds n1 d ++ ((oD, .inl (k 4, 1, .inr (.inr (.inr (.inl fD))))) :: W3 k a3 C n0 R n1 d th)) H1 := hP
  refine lv_istore (lv' := [(6, .int r), (0, .ref b), (1, .ref h), (2, .ref (a3 0)), (3, .ref oL), (4, .ref oD), (5, .int (nI i))]) hx hb dL_law_1060 hl (by decide) rfl (fun ls hl => ?_)
  have hl := lv_sub (l' := [(0, .ref b), (1, .ref h), (2, .ref (a3 0)), (3, .ref oL), (4, .ref oD), (5, .int (nI i)), (6, .int r)]) hl [1, 2, 3, 4, 5, 6, 0] rfl
  refine lv_aload_n hx hb dL_law_1062 rfl (lv_at hl 2 rfl) ?_
  refine y_scr (j := 1) (n1 := 1) hx hb hX hbl hbA hS hl rfl rfl (by omega) (by omega) dL_law_1063 dL_law_1064 (fun st k9 => lv_iconst (v := nI 1) hx hb dL_law_1066 (by decide) k9) dL_law_1067 dL_law_1068 ?_
  refine y_scr (j := 2) (n1 := 1) hx hb hX hbl hbA hS hl rfl rfl (by omega) (by omega) dL_law_1069 dL_law_1070 (fun st k9 => lv_iconst (v := nI 2) hx hb dL_law_1072 (by decide) k9) dL_law_1073 dL_law_1074 ?_
  have hP3 : va_P G vwCl (W3 k a3 C n0 R n1 d th ++ (WL k oL fL1 h a c C n0 M ds n1 d ++ [(oD, .inl (k 4, 1, .inr (.inr (.inr (.inl fD)))))])) H1 := hP.sub [22, 23, 24, 25, 26, 27, 28, 29, 30, 31, 32, 33, 34, 35, 36, 37, 0, 1, 2, 3, 4, 5, 6, 7, 8, 9, 10, 11, 12, 13, 14, 15, 16, 17, 18, 19, 20, 21] rfl
  have hD3 : va_D (fun q : Nat => s.heap.size ≤ q) (W3 k a3 C n0 R n1 d th ++ (WL k oL fL1 h a c C n0 M ds n1 d ++ [(oD, .inl (k 4, 1, .inr (.inr (.inr (.inl fD)))))])) := yD (hD.sub (ws' := W3 k a3 C n0 R n1 d th ++ (WL k oL fL h a c C n0 M ds n1 d ++ [(oD, .inl (k 4, 1, .inr (.inr (.inr (.inl fD)))))])) [22, 23, 24, 25, 26, 27, 28, 29, 30, 31, 32, 33, 34, 35, 36, 37, 0, 1, 2, 3, 4, 5, 6, 7, 8, 9, 10, 11, 12, 13, 14, 15, 16, 17, 18, 19, 20, 21] (by decide) rfl) rfl
  refine y_lcall (w1 := W3 k a3 C n0 R n1 d th) (w2 := (WL k oL fL1 h a c C n0 M ds n1 d ++ [(oD, .inl (k 4, 1, .inr (.inr (.inr (.inl fD)))))])) (va_runV (As := [.int (xs (i + 1)), .int (xs (i + 2))]) (rest := []) ⟨hx, hb, hml, hown, hts⟩ (c_X3_readyAtPlace l G k a3 C n0 R n1 d th H1.size (xs (i + 1)) (xs (i + 2)) ((yD_l hD3).weaken (fun _ _ _ _ => trivial)) hn1) (cwV 2 hts gL_law_X3_readyAtPlace rfl rfl rfl (by decide +kernel) ⟨Nat.le_of_ble_eq_true rfl, Nat.le_of_ble_eq_true rfl⟩) ⟨yBs_blind, va_recv hK (yP_l hP3) (ci := 5) (q0 := 0) rfl rfl, fun U hU hW => ⟨rfl, by rw [hU], by rw [hU]; exact yP_l hP3, va_K.moved hW.alike hK⟩⟩ rfl rfl hl.1 rfl (lv_room (Nat.le_of_ble_eq_true rfl)) dL_law_1075 ⟨show cells + 2 + 0 ≤ 3132 by omega, show slots + 12 + 0 ≤ 120728 by omega⟩) hP3 hD3 hA hS (fun r2 u2 H2 locs2 hq hP hS => ?_)
  have hq9 : (o_rap (xs (i + 1)) (xs (i + 2)) R n1 d) = (o_rapC (xs (i + 1)) (xs (i + 2)) M n1 d) := (rel_rap hY.2).trans (rap_C hn1).symm
  have ec : ((o_rap (xs (i + 1)) (xs (i + 2)) R n1 d)).1 = ((o_rapC (xs (i + 1)) (xs (i + 2)) M n1 d)).1 := congrArg Prod.fst hq9
  have ea : ((o_rap (xs (i + 1)) (xs (i + 2)) R n1 d)).2 = ((o_rapC (xs (i + 1)) (xs (i + 2)) M n1 d)).2 := congrArg (fun z => z.2) hq9
  have hP : va_P G vwCl (W3 k a3 C n0 R n1 d ((o_rap (xs (i + 1)) (xs (i + 2)) R n1 d).1) ++ (WL k oL fL1 h a c C n0 M ds n1 d ++ [(oD, .inl (k 4, 1, .inr (.inr (.inr (.inl fD)))))])) H2 := hP
  refine lv_istore (lv' := [(7, .int r2), (0, .ref b), (1, .ref h), (2, .ref (a3 0)), (3, .ref oL), (4, .ref oD), (5, .int (nI i)), (6, .int r)]) hx hb dL_law_1078 hl (by decide) rfl (fun ls hl => ?_)
  have hl := lv_sub (l' := [(0, .ref b), (1, .ref h), (2, .ref (a3 0)), (3, .ref oL), (4, .ref oD), (5, .int (nI i)), (6, .int r), (7, .int r2)]) hl [1, 2, 3, 4, 5, 6, 7, 0] rfl
  refine lv_aload_n hx hb dL_law_1080 rfl (lv_at hl 2 rfl) ?_
  refine y_roV (As := []) (rest := []) ⟨hx, hb, hml, hown, hts⟩ (c_X3_thrown l G k a3 C n0 R n1 d ((o_rap (xs (i + 1)) (xs (i + 2)) R n1 d).1)) (cwV 0 hts gL_law_X3_thrown rfl rfl rfl (by decide +kernel) ⟨Nat.le_of_ble_eq_true rfl, Nat.le_of_ble_eq_true rfl⟩) hK (yP_l hP) (va_recv hK (yP_l hP) (ci := 5) (q0 := 0) rfl rfl) rfl hl.1 rfl (Nat.le_of_ble_eq_true rfl) dL_law_1081 ⟨show cells + 2 + 0 ≤ 3132 by omega, show slots + 12 + 0 ≤ 120728 by omega⟩ (fun r3 hr3 => ?_)
  refine lv_iload hx hb dL_law_1084 (lv_at hl 6 rfl) ?_
  refine lv_icmp_eq (tgt := 1091) hx hb dL_law_1086 (by decide) (fun c1 => ?_) (fun c1 => absurd (hr3.trans (ec.trans hp1.symm)) c1)
  have hPf : va_P G vwCl (WA k oL fL1 oD fD h a c a3 C n0 M ds n1 d R ((o_rap (xs (i + 1)) (xs (i + 2)) R n1 d).1)) H2 := hP.sub [16, 17, 18, 19, 20, 21, 22, 23, 24, 25, 26, 27, 28, 29, 30, 31, 32, 33, 34, 35, 36, 37, 0, 1, 2, 3, 4, 5, 6, 7, 8, 9, 10, 11, 12, 13, 14, 15] rfl
  have hYf : yY C n0 M ds n1 d R := hY
  have fin : W p l e room_1 s m #[Value.ref b] below meth c_ H2 locs2 (cells + 2 + 0) (slots + 12 + 0) Q (F0 m 1108 ls []) := by
    refine lv_goto (tgt := 1724) hx hb dL_law_1108 (by decide) ?_
    refine W.widen (k := cells + 6) (n := slots + 36) (by omega) (by omega) ?_
    exact kk hPf hYf hS (lv_sub hl [0, 1, 2, 3, 4, 5] rfl)
  refine lv_iload hx hb dL_law_1091 (lv_at hl 6 rfl) ?_
  refine lv_if_ne (tgt := 1108) hx hb dL_law_1093 (by decide) (fun _ => fin) (fun c2 => ?_)
  have h0 := hp2 (by rw [← hp1]; exact c2)
  refine lv_aload_n hx hb dL_law_1096 rfl (lv_at hl 3 rfl) ?_
  refine lv_iconst (v := 0) hx hb dL_law_1097 (by decide) ?_
  refine va_lald hx hb hK hPf 0 3 rfl rfl (vp_in_nI (n := 0) (N := 1) (by decide) (by decide)) dL_law_1098 ?_
  refine lv_iload hx hb dL_law_1099 (lv_at hl 7 rfl) ?_
  refine lv_i2l (v := r2.toInt64) hx hb dL_law_1101 rfl ?_
  refine y_lcmp hx hb (by show fL1 0 = _; rw [h0, hq, ea]) dL_law_1102 ?_
  exact lv_if_eq (tgt := 1108) hx hb dL_law_1103 (by decide) (fun _ => fin) (fun c3 => absurd rfl c3)
set_option maxHeartbeats 4000000 in
set_option maxRecDepth 100000 in
theorem law_take {p : Program} {l : Launch} {e : Env} {s : State} {m : MethodId} {below : List Frame} {meth : Method} {c_ : Code} {b L : Nat} {xs : Nat → Int32} {G : va_G} {k : Nat → ClassId} {oL oD h : Nat} {a c a3 : Nat → Nat} (F : LF p l s m meth c_ b L xs G k) {i : Nat} (hi : i + 7 ≤ L) {cells slots : Nat} (hc : cells + 6 ≤ 3132 ∧ slots + 36 ≤ 120728) {Q : State → Prop} {fL : Nat → Int64} {fD : Nat → UInt64} {C : Nat → Nat → Int32} {n0 : Nat} {M : Nat → Nat → Int32} {ds n1 d : Nat} {R : Nat → Nat → Int32} {th : Int32} {H : Heap} {locs : List Loc} (hP : va_P G vwCl (WA k oL fL oD fD h a c a3 C n0 M ds n1 d R th) H) (hD : va_D (fun q : Nat => s.heap.size ≤ q) (WA k oL fL oD fD h a c a3 C n0 M ds n1 d R th)) (hY : yY C n0 M ds n1 d R) (hS : va_S (fun q : Nat => s.heap.size ≤ q) s.heap H locs) {ls : Array Slot} (hl : lv_has ls 9 [(0, .ref b), (1, .ref h), (2, .ref (a3 0)), (3, .ref oL), (4, .ref oD), (5, .int (nI i))]) (kk : LK p l e s m below meth c_ b G k oL oD h a c a3 i cells slots Q) : W p l e room_1 s m #[Value.ref b] below meth c_ H locs cells slots Q (F0 m 1111 ls []) := by
  obtain ⟨hx, hb, hr, hml, hown, hts, hX, hbl, hL, hK, hE, hNC, hl9⟩ := F
  have hA : ∀ q : Nat, s.heap.size ≤ q → (fun q : Nat => s.heap.size ≤ q) q := fun _ h => h
  have hbA : ¬ (fun q : Nat => s.heap.size ≤ q) b := Nat.not_le.mpr hbl
  have hn := hY.1.1
  have hn1 := hY.1.2.1
  have hC := hY.1.2.2.2.1
  have hw : ∀ z, z < n0 → C 4 z = 0 ∨ C 4 z = 1 := fun z _ => hY.1.2.2.2.2.1 z
  have hE1 : yEV0 s H := yEV0_kept hE ⟨hS.1, hS.2.1, fun q hq => nomatch hq⟩ (fun q h1 h2 => absurd h1 (Nat.not_lt.mpr h2))
  refine lv_aload_n hx hb dL_law_1111 rfl (lv_at hl 1 rfl) ?_
  refine y_scr (j := 1) (n1 := 1) hx hb hX hbl hbA hS hl rfl rfl (by omega) (by omega) dL_law_1112 dL_law_1113 (fun st k9 => lv_iconst (v := nI 1) hx hb dL_law_1115 (by decide) k9) dL_law_1116 dL_law_1117 ?_
  refine y_scr (j := 2) (n1 := 1) hx hb hX hbl hbA hS hl rfl rfl (by omega) (by omega) dL_law_1118 dL_law_1119 (fun st k9 => lv_iconst (v := nI 2) hx hb dL_law_1121 (by decide) k9) dL_law_1122 dL_law_1123 ?_
  refine lv_aload_n hx hb dL_law_1124 rfl (lv_at hl 3 rfl) ?_
  refine y_lcall (w2 := ((oD, .inl (k 4, 1, .inr (.inr (.inr (.inl fD))))) :: W3 k a3 C n0 R n1 d th)) (vx_runSW (As := [.ref h, .int (xs (i + 1)), .int (xs (i + 2)), .ref oL]) (rest := []) ⟨hx, hb, hml, hown, hts⟩ (c_L_take l hl9 G k h a c C n0 M ds n1 d oL fL H.size (xs (i + 1)) (xs (i + 2)) ((yD_l hD).weaken (fun _ _ _ _ => trivial)) hn1) (vx_cwSW 4 hts gL_law_L_take rfl rfl rfl (by decide +kernel) ⟨Nat.le_of_ble_eq_true rfl, Nat.le_of_ble_eq_true rfl⟩) ⟨yL_blind, fun U hU hW => ⟨rfl, by rw [hU], by rw [hU]; exact yP_l hP, va_K.moved hW.alike hK, yEV_at hE1 hU hW, fun z hz => va_Nc.moved hW.alike (hNC z hz)⟩⟩ rfl rfl hl.1 rfl (lv_room (Nat.le_of_ble_eq_true rfl)) dL_law_1125 ⟨show cells + 3 ≤ 3132 by omega, show slots + 18 ≤ 120728 by omega⟩) hP hD hA hS (fun r fL1 H1 locs1 hp hP hS => ?_)
  obtain ⟨hp1, hp2⟩ := hp
  have hP : va_P G vwCl (WL k oL fL1 h a c C n0 ((o_takeC (xs (i + 1)) (xs (i + 2)) M n1 d).2.2) ds n1 d ++ ((oD, .inl (k 4, 1, .inr (.inr (.inr (.inl fD))))) :: W3 k a3 C n0 R n1 d th)) H1 := hP
  refine lv_istore (lv' := [(6, .int r), (0, .ref b), (1, .ref h), (2, .ref (a3 0)), (3, .ref oL), (4, .ref oD), (5, .int (nI i))]) hx hb dL_law_1128 hl (by decide) rfl (fun ls hl => ?_)
  have hl := lv_sub (l' := [(0, .ref b), (1, .ref h), (2, .ref (a3 0)), (3, .ref oL), (4, .ref oD), (5, .int (nI i)), (6, .int r)]) hl [1, 2, 3, 4, 5, 6, 0] rfl
  refine lv_aload_n hx hb dL_law_1130 rfl (lv_at hl 2 rfl) ?_
  refine y_scr (j := 1) (n1 := 1) hx hb hX hbl hbA hS hl rfl rfl (by omega) (by omega) dL_law_1131 dL_law_1132 (fun st k9 => lv_iconst (v := nI 1) hx hb dL_law_1134 (by decide) k9) dL_law_1135 dL_law_1136 ?_
  refine y_scr (j := 2) (n1 := 1) hx hb hX hbl hbA hS hl rfl rfl (by omega) (by omega) dL_law_1137 dL_law_1138 (fun st k9 => lv_iconst (v := nI 2) hx hb dL_law_1140 (by decide) k9) dL_law_1141 dL_law_1142 ?_
  have hP3 : va_P G vwCl (W3 k a3 C n0 R n1 d th ++ (WL k oL fL1 h a c C n0 ((o_takeC (xs (i + 1)) (xs (i + 2)) M n1 d).2.2) ds n1 d ++ [(oD, .inl (k 4, 1, .inr (.inr (.inr (.inl fD)))))])) H1 := hP.sub [22, 23, 24, 25, 26, 27, 28, 29, 30, 31, 32, 33, 34, 35, 36, 37, 0, 1, 2, 3, 4, 5, 6, 7, 8, 9, 10, 11, 12, 13, 14, 15, 16, 17, 18, 19, 20, 21] rfl
  have hD3 : va_D (fun q : Nat => s.heap.size ≤ q) (W3 k a3 C n0 R n1 d th ++ (WL k oL fL1 h a c C n0 ((o_takeC (xs (i + 1)) (xs (i + 2)) M n1 d).2.2) ds n1 d ++ [(oD, .inl (k 4, 1, .inr (.inr (.inr (.inl fD)))))])) := yD (hD.sub (ws' := W3 k a3 C n0 R n1 d th ++ (WL k oL fL h a c C n0 M ds n1 d ++ [(oD, .inl (k 4, 1, .inr (.inr (.inr (.inl fD)))))])) [22, 23, 24, 25, 26, 27, 28, 29, 30, 31, 32, 33, 34, 35, 36, 37, 0, 1, 2, 3, 4, 5, 6, 7, 8, 9, 10, 11, 12, 13, 14, 15, 16, 17, 18, 19, 20, 21] (by decide) rfl) rfl
  refine y_lcall (w1 := W3 k a3 C n0 R n1 d th) (w2 := (WL k oL fL1 h a c C n0 ((o_takeC (xs (i + 1)) (xs (i + 2)) M n1 d).2.2) ds n1 d ++ [(oD, .inl (k 4, 1, .inr (.inr (.inr (.inl fD)))))])) (va_runV (As := [.int (xs (i + 1)), .int (xs (i + 2))]) (rest := []) ⟨hx, hb, hml, hown, hts⟩ (c_X3_take l G k a3 C n0 R n1 d th H1.size (xs (i + 1)) (xs (i + 2)) ((yD_l hD3).weaken (fun _ _ _ _ => trivial)) hn1) (cwV 2 hts gL_law_X3_take rfl rfl rfl (by decide +kernel) ⟨Nat.le_of_ble_eq_true rfl, Nat.le_of_ble_eq_true rfl⟩) ⟨yBs_blind, va_recv hK (yP_l hP3) (ci := 5) (q0 := 0) rfl rfl, fun U hU hW => ⟨rfl, by rw [hU], by rw [hU]; exact yP_l hP3, va_K.moved hW.alike hK⟩⟩ rfl rfl hl.1 rfl (lv_room (Nat.le_of_ble_eq_true rfl)) dL_law_1143 ⟨show cells + 3 + 0 ≤ 3132 by omega, show slots + 18 + 0 ≤ 120728 by omega⟩) hP3 hD3 hA hS (fun r2 u2 H2 locs2 hq hP hS => ?_)
  have e9 := rel_take hY.2 (u := (xs (i + 1))) (q := (xs (i + 2))) (d := d) hn1 (yI_tk hY.1 _)
  have ec : ((o_take (xs (i + 1)) (xs (i + 2)) R n1 d)).1 = ((o_takeC (xs (i + 1)) (xs (i + 2)) M n1 d)).1 := by first | exact e9.1 | exact (rel_take hY.2 (u := (xs (i + 1))) (q := (xs (i + 2))) (d := d) hn1 (yI_tk hY.1 _)).1
  have ea : ((o_take (xs (i + 1)) (xs (i + 2)) R n1 d)).2.1 = ((o_takeC (xs (i + 1)) (xs (i + 2)) M n1 d)).2.1 := by first | exact e9.2.1 | exact (rel_take hY.2 (u := (xs (i + 1))) (q := (xs (i + 2))) (d := d) hn1 (yI_tk hY.1 _)).2.1
  have hP : va_P G vwCl (W3 k a3 C n0 ((o_take (xs (i + 1)) (xs (i + 2)) R n1 d).2.2) n1 d ((o_take (xs (i + 1)) (xs (i + 2)) R n1 d).1) ++ (WL k oL fL1 h a c C n0 ((o_takeC (xs (i + 1)) (xs (i + 2)) M n1 d).2.2) ds n1 d ++ [(oD, .inl (k 4, 1, .inr (.inr (.inr (.inl fD)))))])) H2 := hP
  refine lv_istore (lv' := [(7, .int r2), (0, .ref b), (1, .ref h), (2, .ref (a3 0)), (3, .ref oL), (4, .ref oD), (5, .int (nI i)), (6, .int r)]) hx hb dL_law_1146 hl (by decide) rfl (fun ls hl => ?_)
  have hl := lv_sub (l' := [(0, .ref b), (1, .ref h), (2, .ref (a3 0)), (3, .ref oL), (4, .ref oD), (5, .int (nI i)), (6, .int r), (7, .int r2)]) hl [1, 2, 3, 4, 5, 6, 7, 0] rfl
  refine lv_aload_n hx hb dL_law_1148 rfl (lv_at hl 2 rfl) ?_
  refine y_roV (As := []) (rest := []) ⟨hx, hb, hml, hown, hts⟩ (c_X3_thrown l G k a3 C n0 ((o_take (xs (i + 1)) (xs (i + 2)) R n1 d).2.2) n1 d ((o_take (xs (i + 1)) (xs (i + 2)) R n1 d).1)) (cwV 0 hts gL_law_X3_thrown rfl rfl rfl (by decide +kernel) ⟨Nat.le_of_ble_eq_true rfl, Nat.le_of_ble_eq_true rfl⟩) hK (yP_l hP) (va_recv hK (yP_l hP) (ci := 5) (q0 := 0) rfl rfl) rfl hl.1 rfl (Nat.le_of_ble_eq_true rfl) dL_law_1149 ⟨show cells + 3 + 0 ≤ 3132 by omega, show slots + 18 + 0 ≤ 120728 by omega⟩ (fun r3 hr3 => ?_)
  refine lv_iload hx hb dL_law_1152 (lv_at hl 6 rfl) ?_
  refine lv_icmp_eq (tgt := 1159) hx hb dL_law_1154 (by decide) (fun c1 => ?_) (fun c1 => absurd (hr3.trans (ec.trans hp1.symm)) c1)
  have hPf : va_P G vwCl (WA k oL fL1 oD fD h a c a3 C n0 ((o_takeC (xs (i + 1)) (xs (i + 2)) M n1 d).2.2) ds n1 d ((o_take (xs (i + 1)) (xs (i + 2)) R n1 d).2.2) ((o_take (xs (i + 1)) (xs (i + 2)) R n1 d).1)) H2 := hP.sub [16, 17, 18, 19, 20, 21, 22, 23, 24, 25, 26, 27, 28, 29, 30, 31, 32, 33, 34, 35, 36, 37, 0, 1, 2, 3, 4, 5, 6, 7, 8, 9, 10, 11, 12, 13, 14, 15] rfl
  have hYf : yY C n0 ((o_takeC (xs (i + 1)) (xs (i + 2)) M n1 d).2.2) ds n1 d ((o_take (xs (i + 1)) (xs (i + 2)) R n1 d).2.2) := yY_take hY (xs (i + 1)) (xs (i + 2))
  have fin : W p l e room_1 s m #[Value.ref b] below meth c_ H2 locs2 (cells + 3 + 0) (slots + 18 + 0) Q (F0 m 1176 ls []) := by
    refine lv_goto (tgt := 1724) hx hb dL_law_1176 (by decide) ?_
    refine W.widen (k := cells + 6) (n := slots + 36) (by omega) (by omega) ?_
    exact kk hPf hYf hS (lv_sub hl [0, 1, 2, 3, 4, 5] rfl)
  refine lv_iload hx hb dL_law_1159 (lv_at hl 6 rfl) ?_
  refine lv_if_ne (tgt := 1176) hx hb dL_law_1161 (by decide) (fun _ => fin) (fun c2 => ?_)
  have h0 := hp2 (by rw [← hp1]; exact c2)
  refine lv_aload_n hx hb dL_law_1164 rfl (lv_at hl 3 rfl) ?_
  refine lv_iconst (v := 0) hx hb dL_law_1165 (by decide) ?_
  refine va_lald hx hb hK hPf 0 3 rfl rfl (vp_in_nI (n := 0) (N := 1) (by decide) (by decide)) dL_law_1166 ?_
  refine lv_iload hx hb dL_law_1167 (lv_at hl 7 rfl) ?_
  refine lv_i2l (v := r2.toInt64) hx hb dL_law_1169 rfl ?_
  refine y_lcmp hx hb (by show fL1 0 = _; rw [h0, hq, ea]) dL_law_1170 ?_
  exact lv_if_eq (tgt := 1176) hx hb dL_law_1171 (by decide) (fun _ => fin) (fun c3 => absurd rfl c3)
set_option maxHeartbeats 4000000 in
set_option maxRecDepth 100000 in
theorem law_finish {p : Program} {l : Launch} {e : Env} {s : State} {m : MethodId} {below : List Frame} {meth : Method} {c_ : Code} {b L : Nat} {xs : Nat → Int32} {G : va_G} {k : Nat → ClassId} {oL oD h : Nat} {a c a3 : Nat → Nat} (F : LF p l s m meth c_ b L xs G k) {i : Nat} (hi : i + 7 ≤ L) {cells slots : Nat} (hc : cells + 6 ≤ 3132 ∧ slots + 36 ≤ 120728) {Q : State → Prop} {fL : Nat → Int64} {fD : Nat → UInt64} {C : Nat → Nat → Int32} {n0 : Nat} {M : Nat → Nat → Int32} {ds n1 d : Nat} {R : Nat → Nat → Int32} {th : Int32} {H : Heap} {locs : List Loc} (hP : va_P G vwCl (WA k oL fL oD fD h a c a3 C n0 M ds n1 d R th) H) (hD : va_D (fun q : Nat => s.heap.size ≤ q) (WA k oL fL oD fD h a c a3 C n0 M ds n1 d R th)) (hY : yY C n0 M ds n1 d R) (hS : va_S (fun q : Nat => s.heap.size ≤ q) s.heap H locs) {ls : Array Slot} (hl : lv_has ls 9 [(0, .ref b), (1, .ref h), (2, .ref (a3 0)), (3, .ref oL), (4, .ref oD), (5, .int (nI i))]) (kk : LK p l e s m below meth c_ b G k oL oD h a c a3 i cells slots Q) : W p l e room_1 s m #[Value.ref b] below meth c_ H locs cells slots Q (F0 m 1179 ls []) := by
  obtain ⟨hx, hb, hr, hml, hown, hts, hX, hbl, hL, hK, hE, hNC, hl9⟩ := F
  have hA : ∀ q : Nat, s.heap.size ≤ q → (fun q : Nat => s.heap.size ≤ q) q := fun _ h => h
  have hbA : ¬ (fun q : Nat => s.heap.size ≤ q) b := Nat.not_le.mpr hbl
  have hn := hY.1.1
  have hn1 := hY.1.2.1
  have hC := hY.1.2.2.2.1
  have hw : ∀ z, z < n0 → C 4 z = 0 ∨ C 4 z = 1 := fun z _ => hY.1.2.2.2.2.1 z
  have hE1 : yEV0 s H := yEV0_kept hE ⟨hS.1, hS.2.1, fun q hq => nomatch hq⟩ (fun q h1 h2 => absurd h1 (Nat.not_lt.mpr h2))
  refine lv_aload_n hx hb dL_law_1179 rfl (lv_at hl 1 rfl) ?_
  refine y_scr (j := 1) (n1 := 1) hx hb hX hbl hbA hS hl rfl rfl (by omega) (by omega) dL_law_1180 dL_law_1181 (fun st k9 => lv_iconst (v := nI 1) hx hb dL_law_1183 (by decide) k9) dL_law_1184 dL_law_1185 ?_
  refine lv_aload_n hx hb dL_law_1186 rfl (lv_at hl 3 rfl) ?_
  refine y_lcall (w2 := ((oD, .inl (k 4, 1, .inr (.inr (.inr (.inl fD))))) :: W3 k a3 C n0 R n1 d th)) (vx_runSW (As := [.ref h, .int (xs (i + 1)), .ref oL]) (rest := []) ⟨hx, hb, hml, hown, hts⟩ (c_L_finish l hl9 G k h a c C n0 M ds n1 d oL fL H.size (xs (i + 1)) ((yD_l hD).weaken (fun _ _ _ _ => trivial)) hn hn1 (yY_cs hY) hw (fun z hz h5 => yI_lt hY.1 hz h5)) (vx_cwSW 3 hts gL_law_L_finish rfl rfl rfl (by decide +kernel) ⟨Nat.le_of_ble_eq_true rfl, Nat.le_of_ble_eq_true rfl⟩) ⟨yL_blind, fun U hU hW => ⟨rfl, by rw [hU], by rw [hU]; exact yP_l hP, va_K.moved hW.alike hK, yEV_at hE1 hU hW, fun z hz => va_Nc.moved hW.alike (hNC z hz)⟩⟩ rfl rfl hl.1 rfl (lv_room (Nat.le_of_ble_eq_true rfl)) dL_law_1187 ⟨show cells + 2 ≤ 3132 by omega, show slots + 12 ≤ 120728 by omega⟩) hP hD hA hS (fun r fL1 H1 locs1 hp hP hS => ?_)
  obtain ⟨hp1, hp2⟩ := hp
  have hP : va_P G vwCl (WL k oL fL1 h a c ((o_finishC (xs (i + 1)) C M ds n1).2.2.1) n0 ((o_finishC (xs (i + 1)) C M ds n1).2.2.2.1) ((o_finishC (xs (i + 1)) C M ds n1).2.2.2.2) n1 d ++ ((oD, .inl (k 4, 1, .inr (.inr (.inr (.inl fD))))) :: W3 k a3 C n0 R n1 d th)) H1 := hP
  refine lv_istore (lv' := [(6, .int r), (0, .ref b), (1, .ref h), (2, .ref (a3 0)), (3, .ref oL), (4, .ref oD), (5, .int (nI i))]) hx hb dL_law_1190 hl (by decide) rfl (fun ls hl => ?_)
  have hl := lv_sub (l' := [(0, .ref b), (1, .ref h), (2, .ref (a3 0)), (3, .ref oL), (4, .ref oD), (5, .int (nI i)), (6, .int r)]) hl [1, 2, 3, 4, 5, 6, 0] rfl
  refine lv_aload_n hx hb dL_law_1192 rfl (lv_at hl 2 rfl) ?_
  refine y_scr (j := 1) (n1 := 1) hx hb hX hbl hbA hS hl rfl rfl (by omega) (by omega) dL_law_1193 dL_law_1194 (fun st k9 => lv_iconst (v := nI 1) hx hb dL_law_1196 (by decide) k9) dL_law_1197 dL_law_1198 ?_
  have hP3 : va_P G vwCl (W3 k a3 C n0 R n1 d th ++ (WL k oL fL1 h a c ((o_finishC (xs (i + 1)) C M ds n1).2.2.1) n0 ((o_finishC (xs (i + 1)) C M ds n1).2.2.2.1) ((o_finishC (xs (i + 1)) C M ds n1).2.2.2.2) n1 d ++ [(oD, .inl (k 4, 1, .inr (.inr (.inr (.inl fD)))))])) H1 := hP.sub [22, 23, 24, 25, 26, 27, 28, 29, 30, 31, 32, 33, 34, 35, 36, 37, 0, 1, 2, 3, 4, 5, 6, 7, 8, 9, 10, 11, 12, 13, 14, 15, 16, 17, 18, 19, 20, 21] rfl
  have hD3 : va_D (fun q : Nat => s.heap.size ≤ q) (W3 k a3 C n0 R n1 d th ++ (WL k oL fL1 h a c ((o_finishC (xs (i + 1)) C M ds n1).2.2.1) n0 ((o_finishC (xs (i + 1)) C M ds n1).2.2.2.1) ((o_finishC (xs (i + 1)) C M ds n1).2.2.2.2) n1 d ++ [(oD, .inl (k 4, 1, .inr (.inr (.inr (.inl fD)))))])) := yD (hD.sub (ws' := W3 k a3 C n0 R n1 d th ++ (WL k oL fL h a c C n0 M ds n1 d ++ [(oD, .inl (k 4, 1, .inr (.inr (.inr (.inl fD)))))])) [22, 23, 24, 25, 26, 27, 28, 29, 30, 31, 32, 33, 34, 35, 36, 37, 0, 1, 2, 3, 4, 5, 6, 7, 8, 9, 10, 11, 12, 13, 14, 15, 16, 17, 18, 19, 20, 21] (by decide) rfl) rfl
  refine y_lcall (w1 := W3 k a3 C n0 R n1 d th) (w2 := (WL k oL fL1 h a c ((o_finishC (xs (i + 1)) C M ds n1).2.2.1) n0 ((o_finishC (xs (i + 1)) C M ds n1).2.2.2.1) ((o_finishC (xs (i + 1)) C M ds n1).2.2.2.2) n1 d ++ [(oD, .inl (k 4, 1, .inr (.inr (.inr (.inl fD)))))])) (va_runV (As := [.int (xs (i + 1))]) (rest := []) ⟨hx, hb, hml, hown, hts⟩ (c_X3_finish l G k a3 C n0 R n1 d th H1.size (xs (i + 1)) ((yD_l hD3).weaken (fun _ _ _ _ => trivial)) hn hn1 (by rw [hY.2.e5, hY.2.e3]; exact yY_cs hY) hw) (cwV 1 hts gL_law_X3_finish rfl rfl rfl (by decide +kernel) ⟨Nat.le_of_ble_eq_true rfl, Nat.le_of_ble_eq_true rfl⟩) ⟨yBs_blind, va_recv hK (yP_l hP3) (ci := 5) (q0 := 0) rfl rfl, fun U hU hW => ⟨rfl, by rw [hU], by rw [hU]; exact yP_l hP3, va_K.moved hW.alike hK⟩⟩ rfl rfl hl.1 rfl (lv_room (Nat.le_of_ble_eq_true rfl)) dL_law_1199 ⟨show cells + 2 + 0 ≤ 3132 by omega, show slots + 12 + 0 ≤ 120728 by omega⟩) hP3 hD3 hA hS (fun r2 u2 H2 locs2 hq hP hS => ?_)
  have e9 := rel_finish hY.2 (x := (xs (i + 1))) (C := C) (ds := ds) hn hn1 hC (fun z hz => (yI_ok hY.1 z hz).2.2.1) (yY_cs hY)
  have ec : ((o_finish (xs (i + 1)) C R n1)).1 = ((o_finishC (xs (i + 1)) C M ds n1)).1 := by first | exact e9.1 | exact (rel_finish hY.2 (x := (xs (i + 1))) (C := C) (ds := ds) hn hn1 hC (fun z hz => (yI_ok hY.1 z hz).2.2.1) (yY_cs hY)).1
  have ea : ((o_finish (xs (i + 1)) C R n1)).2.1 = ((o_finishC (xs (i + 1)) C M ds n1)).2.1 := by first | exact e9.2.1 | exact (rel_finish hY.2 (x := (xs (i + 1))) (C := C) (ds := ds) hn hn1 hC (fun z hz => (yI_ok hY.1 z hz).2.2.1) (yY_cs hY)).2.1
  have hP : va_P G vwCl (W3 k a3 ((o_finish (xs (i + 1)) C R n1).2.2.1) n0 ((o_finish (xs (i + 1)) C R n1).2.2.2) n1 d ((o_finish (xs (i + 1)) C R n1).1) ++ (WL k oL fL1 h a c ((o_finishC (xs (i + 1)) C M ds n1).2.2.1) n0 ((o_finishC (xs (i + 1)) C M ds n1).2.2.2.1) ((o_finishC (xs (i + 1)) C M ds n1).2.2.2.2) n1 d ++ [(oD, .inl (k 4, 1, .inr (.inr (.inr (.inl fD)))))])) H2 := hP
  refine lv_istore (lv' := [(7, .int r2), (0, .ref b), (1, .ref h), (2, .ref (a3 0)), (3, .ref oL), (4, .ref oD), (5, .int (nI i)), (6, .int r)]) hx hb dL_law_1202 hl (by decide) rfl (fun ls hl => ?_)
  have hl := lv_sub (l' := [(0, .ref b), (1, .ref h), (2, .ref (a3 0)), (3, .ref oL), (4, .ref oD), (5, .int (nI i)), (6, .int r), (7, .int r2)]) hl [1, 2, 3, 4, 5, 6, 7, 0] rfl
  refine lv_aload_n hx hb dL_law_1204 rfl (lv_at hl 2 rfl) ?_
  refine y_roV (As := []) (rest := []) ⟨hx, hb, hml, hown, hts⟩ (c_X3_thrown l G k a3 ((o_finish (xs (i + 1)) C R n1).2.2.1) n0 ((o_finish (xs (i + 1)) C R n1).2.2.2) n1 d ((o_finish (xs (i + 1)) C R n1).1)) (cwV 0 hts gL_law_X3_thrown rfl rfl rfl (by decide +kernel) ⟨Nat.le_of_ble_eq_true rfl, Nat.le_of_ble_eq_true rfl⟩) hK (yP_l hP) (va_recv hK (yP_l hP) (ci := 5) (q0 := 0) rfl rfl) rfl hl.1 rfl (Nat.le_of_ble_eq_true rfl) dL_law_1205 ⟨show cells + 2 + 0 ≤ 3132 by omega, show slots + 12 + 0 ≤ 120728 by omega⟩ (fun r3 hr3 => ?_)
  refine lv_iload hx hb dL_law_1208 (lv_at hl 6 rfl) ?_
  refine lv_icmp_eq (tgt := 1215) hx hb dL_law_1210 (by decide) (fun c1 => ?_) (fun c1 => absurd (hr3.trans (ec.trans hp1.symm)) c1)
  rw [e9.2.2.1] at hP
  have hPf : va_P G vwCl (WA k oL fL1 oD fD h a c a3 ((o_finishC (xs (i + 1)) C M ds n1).2.2.1) n0 ((o_finishC (xs (i + 1)) C M ds n1).2.2.2.1) ((o_finishC (xs (i + 1)) C M ds n1).2.2.2.2) n1 d ((o_finish (xs (i + 1)) C R n1).2.2.2) ((o_finish (xs (i + 1)) C R n1).1)) H2 := hP.sub [16, 17, 18, 19, 20, 21, 22, 23, 24, 25, 26, 27, 28, 29, 30, 31, 32, 33, 34, 35, 36, 37, 0, 1, 2, 3, 4, 5, 6, 7, 8, 9, 10, 11, 12, 13, 14, 15] rfl
  have hYf : yY ((o_finishC (xs (i + 1)) C M ds n1).2.2.1) n0 ((o_finishC (xs (i + 1)) C M ds n1).2.2.2.1) ((o_finishC (xs (i + 1)) C M ds n1).2.2.2.2) n1 d ((o_finish (xs (i + 1)) C R n1).2.2.2) := yY_finish hY (xs (i + 1))
  have fin : W p l e room_1 s m #[Value.ref b] below meth c_ H2 locs2 (cells + 2 + 0) (slots + 12 + 0) Q (F0 m 1239 ls []) := by
    refine lv_goto (tgt := 1724) hx hb dL_law_1239 (by decide) ?_
    refine W.widen (k := cells + 6) (n := slots + 36) (by omega) (by omega) ?_
    exact kk hPf hYf hS (lv_sub hl [0, 1, 2, 3, 4, 5] rfl)
  refine lv_iload hx hb dL_law_1215 (lv_at hl 6 rfl) ?_
  refine lv_if_ne (tgt := 1239) hx hb dL_law_1217 (by decide) (fun _ => fin) (fun c2 => ?_)
  have h0 := hp2 (by rw [← hp1]; exact c2)
  refine lv_aload_n hx hb dL_law_1220 rfl (lv_at hl 3 rfl) ?_
  refine lv_iconst (v := 0) hx hb dL_law_1221 (by decide) ?_
  refine va_lald hx hb hK hPf 0 3 rfl rfl (vp_in_nI (n := 0) (N := 1) (by decide) (by decide)) dL_law_1222 ?_
  refine lv_iload hx hb dL_law_1223 (lv_at hl 7 rfl) ?_
  refine lv_if_eq (tgt := 1232) hx hb dL_law_1225 (by decide) (fun c4 => ?_) (fun c4 => ?_)
  · refine lv_lconst (v := 0) hx hb dL_law_1232 (by decide) ?_
    refine y_lcmp hx hb (by show fL1 0 = _; rw [h0, if_pos (by rw [← ea, ← hq]; exact c4)]) dL_law_1233 ?_
    exact lv_if_eq (tgt := 1239) hx hb dL_law_1234 (by decide) (fun _ => fin) (fun c3 => absurd rfl c3)
  · refine lv_lconst (v := 1) hx hb dL_law_1228 (by decide) ?_
    refine lv_goto (tgt := 1233) hx hb dL_law_1229 (by decide) ?_
    refine y_lcmp hx hb (by show fL1 0 = _; rw [h0, if_neg (fun h9 => c4 (by rw [hq, ea]; exact h9))]) dL_law_1233 ?_
    exact lv_if_eq (tgt := 1239) hx hb dL_law_1234 (by decide) (fun _ => fin) (fun c3 => absurd rfl c3)
set_option maxHeartbeats 4000000 in
set_option maxRecDepth 100000 in
theorem law_handBack {p : Program} {l : Launch} {e : Env} {s : State} {m : MethodId} {below : List Frame} {meth : Method} {c_ : Code} {b L : Nat} {xs : Nat → Int32} {G : va_G} {k : Nat → ClassId} {oL oD h : Nat} {a c a3 : Nat → Nat} (F : LF p l s m meth c_ b L xs G k) {i : Nat} (hi : i + 7 ≤ L) {cells slots : Nat} (hc : cells + 6 ≤ 3132 ∧ slots + 36 ≤ 120728) {Q : State → Prop} {fL : Nat → Int64} {fD : Nat → UInt64} {C : Nat → Nat → Int32} {n0 : Nat} {M : Nat → Nat → Int32} {ds n1 d : Nat} {R : Nat → Nat → Int32} {th : Int32} {H : Heap} {locs : List Loc} (hP : va_P G vwCl (WA k oL fL oD fD h a c a3 C n0 M ds n1 d R th) H) (hD : va_D (fun q : Nat => s.heap.size ≤ q) (WA k oL fL oD fD h a c a3 C n0 M ds n1 d R th)) (hY : yY C n0 M ds n1 d R) (hS : va_S (fun q : Nat => s.heap.size ≤ q) s.heap H locs) {ls : Array Slot} (hl : lv_has ls 9 [(0, .ref b), (1, .ref h), (2, .ref (a3 0)), (3, .ref oL), (4, .ref oD), (5, .int (nI i))]) (kk : LK p l e s m below meth c_ b G k oL oD h a c a3 i cells slots Q) : W p l e room_1 s m #[Value.ref b] below meth c_ H locs cells slots Q (F0 m 1242 ls []) := by
  obtain ⟨hx, hb, hr, hml, hown, hts, hX, hbl, hL, hK, hE, hNC, hl9⟩ := F
  have hA : ∀ q : Nat, s.heap.size ≤ q → (fun q : Nat => s.heap.size ≤ q) q := fun _ h => h
  have hbA : ¬ (fun q : Nat => s.heap.size ≤ q) b := Nat.not_le.mpr hbl
  have hn := hY.1.1
  have hn1 := hY.1.2.1
  have hC := hY.1.2.2.2.1
  have hw : ∀ z, z < n0 → C 4 z = 0 ∨ C 4 z = 1 := fun z _ => hY.1.2.2.2.2.1 z
  have hE1 : yEV0 s H := yEV0_kept hE ⟨hS.1, hS.2.1, fun q hq => nomatch hq⟩ (fun q h1 h2 => absurd h1 (Nat.not_lt.mpr h2))
  refine lv_aload_n hx hb dL_law_1242 rfl (lv_at hl 1 rfl) ?_
  refine y_scr (j := 1) (n1 := 1) hx hb hX hbl hbA hS hl rfl rfl (by omega) (by omega) dL_law_1243 dL_law_1244 (fun st k9 => lv_iconst (v := nI 1) hx hb dL_law_1246 (by decide) k9) dL_law_1247 dL_law_1248 ?_
  refine lv_aload_n hx hb dL_law_1249 rfl (lv_at hl 3 rfl) ?_
  refine y_lcall (w2 := ((oD, .inl (k 4, 1, .inr (.inr (.inr (.inl fD))))) :: W3 k a3 C n0 R n1 d th)) (vx_runSW (As := [.ref h, .int (xs (i + 1)), .ref oL]) (rest := []) ⟨hx, hb, hml, hown, hts⟩ (c_L_handBack l hl9 G k h a c C n0 M ds n1 d oL fL H.size (xs (i + 1)) ((yD_l hD).weaken (fun _ _ _ _ => trivial)) hn1) (vx_cwSW 3 hts gL_law_L_handBack rfl rfl rfl (by decide +kernel) ⟨Nat.le_of_ble_eq_true rfl, Nat.le_of_ble_eq_true rfl⟩) ⟨yL_blind, fun U hU hW => ⟨rfl, by rw [hU], by rw [hU]; exact yP_l hP, va_K.moved hW.alike hK, yEV_at hE1 hU hW, fun z hz => va_Nc.moved hW.alike (hNC z hz)⟩⟩ rfl rfl hl.1 rfl (lv_room (Nat.le_of_ble_eq_true rfl)) dL_law_1250 ⟨show cells + 2 ≤ 3132 by omega, show slots + 12 ≤ 120728 by omega⟩) hP hD hA hS (fun r fL1 H1 locs1 hp hP hS => ?_)
  obtain ⟨hp1, hp2⟩ := hp
  have hP : va_P G vwCl (WL k oL fL1 h a c C n0 ((o_handBackC (xs (i + 1)) M n1 d).2.2) ds n1 d ++ ((oD, .inl (k 4, 1, .inr (.inr (.inr (.inl fD))))) :: W3 k a3 C n0 R n1 d th)) H1 := hP
  refine lv_istore (lv' := [(6, .int r), (0, .ref b), (1, .ref h), (2, .ref (a3 0)), (3, .ref oL), (4, .ref oD), (5, .int (nI i))]) hx hb dL_law_1253 hl (by decide) rfl (fun ls hl => ?_)
  have hl := lv_sub (l' := [(0, .ref b), (1, .ref h), (2, .ref (a3 0)), (3, .ref oL), (4, .ref oD), (5, .int (nI i)), (6, .int r)]) hl [1, 2, 3, 4, 5, 6, 0] rfl
  refine lv_aload_n hx hb dL_law_1255 rfl (lv_at hl 2 rfl) ?_
  refine y_scr (j := 1) (n1 := 1) hx hb hX hbl hbA hS hl rfl rfl (by omega) (by omega) dL_law_1256 dL_law_1257 (fun st k9 => lv_iconst (v := nI 1) hx hb dL_law_1259 (by decide) k9) dL_law_1260 dL_law_1261 ?_
  have hP3 : va_P G vwCl (W3 k a3 C n0 R n1 d th ++ (WL k oL fL1 h a c C n0 ((o_handBackC (xs (i + 1)) M n1 d).2.2) ds n1 d ++ [(oD, .inl (k 4, 1, .inr (.inr (.inr (.inl fD)))))])) H1 := hP.sub [22, 23, 24, 25, 26, 27, 28, 29, 30, 31, 32, 33, 34, 35, 36, 37, 0, 1, 2, 3, 4, 5, 6, 7, 8, 9, 10, 11, 12, 13, 14, 15, 16, 17, 18, 19, 20, 21] rfl
  have hD3 : va_D (fun q : Nat => s.heap.size ≤ q) (W3 k a3 C n0 R n1 d th ++ (WL k oL fL1 h a c C n0 ((o_handBackC (xs (i + 1)) M n1 d).2.2) ds n1 d ++ [(oD, .inl (k 4, 1, .inr (.inr (.inr (.inl fD)))))])) := yD (hD.sub (ws' := W3 k a3 C n0 R n1 d th ++ (WL k oL fL h a c C n0 M ds n1 d ++ [(oD, .inl (k 4, 1, .inr (.inr (.inr (.inl fD)))))])) [22, 23, 24, 25, 26, 27, 28, 29, 30, 31, 32, 33, 34, 35, 36, 37, 0, 1, 2, 3, 4, 5, 6, 7, 8, 9, 10, 11, 12, 13, 14, 15, 16, 17, 18, 19, 20, 21] (by decide) rfl) rfl
  refine y_lcall (w1 := W3 k a3 C n0 R n1 d th) (w2 := (WL k oL fL1 h a c C n0 ((o_handBackC (xs (i + 1)) M n1 d).2.2) ds n1 d ++ [(oD, .inl (k 4, 1, .inr (.inr (.inr (.inl fD)))))])) (va_runV (As := [.int (xs (i + 1))]) (rest := []) ⟨hx, hb, hml, hown, hts⟩ (c_X3_handBack l G k a3 C n0 R n1 d th H1.size (xs (i + 1)) ((yD_l hD3).weaken (fun _ _ _ _ => trivial)) hn1) (cwV 1 hts gL_law_X3_handBack rfl rfl rfl (by decide +kernel) ⟨Nat.le_of_ble_eq_true rfl, Nat.le_of_ble_eq_true rfl⟩) ⟨yBs_blind, va_recv hK (yP_l hP3) (ci := 5) (q0 := 0) rfl rfl, fun U hU hW => ⟨rfl, by rw [hU], by rw [hU]; exact yP_l hP3, va_K.moved hW.alike hK⟩⟩ rfl rfl hl.1 rfl (lv_room (Nat.le_of_ble_eq_true rfl)) dL_law_1262 ⟨show cells + 2 + 0 ≤ 3132 by omega, show slots + 12 + 0 ≤ 120728 by omega⟩) hP3 hD3 hA hS (fun r2 u2 H2 locs2 hq hP hS => ?_)
  have e9 := rel_handBack hY.2 (x := (xs (i + 1))) (d := d) hn1 (fun z hz => (yI_ok hY.1 z hz).2.2.2.2.1)
  have ec : ((o_handBack (xs (i + 1)) R n1 d)).1 = ((o_handBackC (xs (i + 1)) M n1 d)).1 := by first | exact e9.1 | exact (rel_handBack hY.2 (x := (xs (i + 1))) (d := d) hn1 (fun z hz => (yI_ok hY.1 z hz).2.2.2.2.1)).1
  have ea : ((o_handBack (xs (i + 1)) R n1 d)).2.1 = ((o_handBackC (xs (i + 1)) M n1 d)).2.1 := by first | exact e9.2.1 | exact (rel_handBack hY.2 (x := (xs (i + 1))) (d := d) hn1 (fun z hz => (yI_ok hY.1 z hz).2.2.2.2.1)).2.1
  have hP : va_P G vwCl (W3 k a3 C n0 ((o_handBack (xs (i + 1)) R n1 d).2.2) n1 d ((o_handBack (xs (i + 1)) R n1 d).1) ++ (WL k oL fL1 h a c C n0 ((o_handBackC (xs (i + 1)) M n1 d).2.2) ds n1 d ++ [(oD, .inl (k 4, 1, .inr (.inr (.inr (.inl fD)))))])) H2 := hP
  refine lv_istore (lv' := [(7, .int r2), (0, .ref b), (1, .ref h), (2, .ref (a3 0)), (3, .ref oL), (4, .ref oD), (5, .int (nI i)), (6, .int r)]) hx hb dL_law_1265 hl (by decide) rfl (fun ls hl => ?_)
  have hl := lv_sub (l' := [(0, .ref b), (1, .ref h), (2, .ref (a3 0)), (3, .ref oL), (4, .ref oD), (5, .int (nI i)), (6, .int r), (7, .int r2)]) hl [1, 2, 3, 4, 5, 6, 7, 0] rfl
  refine lv_aload_n hx hb dL_law_1267 rfl (lv_at hl 2 rfl) ?_
  refine y_roV (As := []) (rest := []) ⟨hx, hb, hml, hown, hts⟩ (c_X3_thrown l G k a3 C n0 ((o_handBack (xs (i + 1)) R n1 d).2.2) n1 d ((o_handBack (xs (i + 1)) R n1 d).1)) (cwV 0 hts gL_law_X3_thrown rfl rfl rfl (by decide +kernel) ⟨Nat.le_of_ble_eq_true rfl, Nat.le_of_ble_eq_true rfl⟩) hK (yP_l hP) (va_recv hK (yP_l hP) (ci := 5) (q0 := 0) rfl rfl) rfl hl.1 rfl (Nat.le_of_ble_eq_true rfl) dL_law_1268 ⟨show cells + 2 + 0 ≤ 3132 by omega, show slots + 12 + 0 ≤ 120728 by omega⟩ (fun r3 hr3 => ?_)
  refine lv_iload hx hb dL_law_1271 (lv_at hl 6 rfl) ?_
  refine lv_icmp_eq (tgt := 1278) hx hb dL_law_1273 (by decide) (fun c1 => ?_) (fun c1 => absurd (hr3.trans (ec.trans hp1.symm)) c1)
  have hPf : va_P G vwCl (WA k oL fL1 oD fD h a c a3 C n0 ((o_handBackC (xs (i + 1)) M n1 d).2.2) ds n1 d ((o_handBack (xs (i + 1)) R n1 d).2.2) ((o_handBack (xs (i + 1)) R n1 d).1)) H2 := hP.sub [16, 17, 18, 19, 20, 21, 22, 23, 24, 25, 26, 27, 28, 29, 30, 31, 32, 33, 34, 35, 36, 37, 0, 1, 2, 3, 4, 5, 6, 7, 8, 9, 10, 11, 12, 13, 14, 15] rfl
  have hYf : yY C n0 ((o_handBackC (xs (i + 1)) M n1 d).2.2) ds n1 d ((o_handBack (xs (i + 1)) R n1 d).2.2) := yY_handBack hY (xs (i + 1))
  have fin : W p l e room_1 s m #[Value.ref b] below meth c_ H2 locs2 (cells + 2 + 0) (slots + 12 + 0) Q (F0 m 1295 ls []) := by
    refine lv_goto (tgt := 1724) hx hb dL_law_1295 (by decide) ?_
    refine W.widen (k := cells + 6) (n := slots + 36) (by omega) (by omega) ?_
    exact kk hPf hYf hS (lv_sub hl [0, 1, 2, 3, 4, 5] rfl)
  refine lv_iload hx hb dL_law_1278 (lv_at hl 6 rfl) ?_
  refine lv_if_ne (tgt := 1295) hx hb dL_law_1280 (by decide) (fun _ => fin) (fun c2 => ?_)
  have h0 := hp2 (by rw [← hp1]; exact c2)
  refine lv_aload_n hx hb dL_law_1283 rfl (lv_at hl 3 rfl) ?_
  refine lv_iconst (v := 0) hx hb dL_law_1284 (by decide) ?_
  refine va_lald hx hb hK hPf 0 3 rfl rfl (vp_in_nI (n := 0) (N := 1) (by decide) (by decide)) dL_law_1285 ?_
  refine lv_iload hx hb dL_law_1286 (lv_at hl 7 rfl) ?_
  refine lv_i2l (v := r2.toInt64) hx hb dL_law_1288 rfl ?_
  refine y_lcmp hx hb (by show fL1 0 = _; rw [h0, hq, ea]) dL_law_1289 ?_
  exact lv_if_eq (tgt := 1295) hx hb dL_law_1290 (by decide) (fun _ => fin) (fun c3 => absurd rfl c3)
set_option maxHeartbeats 4000000 in
set_option maxRecDepth 100000 in
theorem law_revive {p : Program} {l : Launch} {e : Env} {s : State} {m : MethodId} {below : List Frame} {meth : Method} {c_ : Code} {b L : Nat} {xs : Nat → Int32} {G : va_G} {k : Nat → ClassId} {oL oD h : Nat} {a c a3 : Nat → Nat} (F : LF p l s m meth c_ b L xs G k) {i : Nat} (hi : i + 7 ≤ L) {cells slots : Nat} (hc : cells + 6 ≤ 3132 ∧ slots + 36 ≤ 120728) {Q : State → Prop} {fL : Nat → Int64} {fD : Nat → UInt64} {C : Nat → Nat → Int32} {n0 : Nat} {M : Nat → Nat → Int32} {ds n1 d : Nat} {R : Nat → Nat → Int32} {th : Int32} {H : Heap} {locs : List Loc} (hP : va_P G vwCl (WA k oL fL oD fD h a c a3 C n0 M ds n1 d R th) H) (hD : va_D (fun q : Nat => s.heap.size ≤ q) (WA k oL fL oD fD h a c a3 C n0 M ds n1 d R th)) (hY : yY C n0 M ds n1 d R) (hS : va_S (fun q : Nat => s.heap.size ≤ q) s.heap H locs) {ls : Array Slot} (hl : lv_has ls 9 [(0, .ref b), (1, .ref h), (2, .ref (a3 0)), (3, .ref oL), (4, .ref oD), (5, .int (nI i))]) (kk : LK p l e s m below meth c_ b G k oL oD h a c a3 i cells slots Q) : W p l e room_1 s m #[Value.ref b] below meth c_ H locs cells slots Q (F0 m 1298 ls []) := by
  obtain ⟨hx, hb, hr, hml, hown, hts, hX, hbl, hL, hK, hE, hNC, hl9⟩ := F
  have hA : ∀ q : Nat, s.heap.size ≤ q → (fun q : Nat => s.heap.size ≤ q) q := fun _ h => h
  have hbA : ¬ (fun q : Nat => s.heap.size ≤ q) b := Nat.not_le.mpr hbl
  have hn := hY.1.1
  have hn1 := hY.1.2.1
  have hC := hY.1.2.2.2.1
  have hw : ∀ z, z < n0 → C 4 z = 0 ∨ C 4 z = 1 := fun z _ => hY.1.2.2.2.2.1 z
  have hE1 : yEV0 s H := yEV0_kept hE ⟨hS.1, hS.2.1, fun q hq => nomatch hq⟩ (fun q h1 h2 => absurd h1 (Nat.not_lt.mpr h2))
  refine lv_aload_n hx hb dL_law_1298 rfl (lv_at hl 1 rfl) ?_
  refine y_scr (j := 1) (n1 := 1) hx hb hX hbl hbA hS hl rfl rfl (by omega) (by omega) dL_law_1299 dL_law_1300 (fun st k9 => lv_iconst (v := nI 1) hx hb dL_law_1302 (by decide) k9) dL_law_1303 dL_law_1304 ?_
  refine lv_aload_n hx hb dL_law_1305 rfl (lv_at hl 3 rfl) ?_
  refine y_lcall (w2 := ((oD, .inl (k 4, 1, .inr (.inr (.inr (.inl fD))))) :: W3 k a3 C n0 R n1 d th)) (vx_runSW (As := [.ref h, .int (xs (i + 1)), .ref oL]) (rest := []) ⟨hx, hb, hml, hown, hts⟩ (c_L_revive l hl9 G k h a c C n0 M ds n1 d oL fL H.size (xs (i + 1)) ((yD_l hD).weaken (fun _ _ _ _ => trivial)) hn1) (vx_cwSW 3 hts gL_law_L_revive rfl rfl rfl (by decide +kernel) ⟨Nat.le_of_ble_eq_true rfl, Nat.le_of_ble_eq_true rfl⟩) ⟨yL_blind, fun U hU hW => ⟨rfl, by rw [hU], by rw [hU]; exact yP_l hP, va_K.moved hW.alike hK, yEV_at hE1 hU hW, fun z hz => va_Nc.moved hW.alike (hNC z hz)⟩⟩ rfl rfl hl.1 rfl (lv_room (Nat.le_of_ble_eq_true rfl)) dL_law_1306 ⟨show cells + 2 ≤ 3132 by omega, show slots + 12 ≤ 120728 by omega⟩) hP hD hA hS (fun r fL1 H1 locs1 hp hP hS => ?_)
  obtain ⟨hp1, hp2⟩ := hp
  have hP : va_P G vwCl (WL k oL fL1 h a c C n0 ((o_revive (xs (i + 1)) M n1 d).2.2) ds n1 d ++ ((oD, .inl (k 4, 1, .inr (.inr (.inr (.inl fD))))) :: W3 k a3 C n0 R n1 d th)) H1 := hP
  refine lv_istore (lv' := [(6, .int r), (0, .ref b), (1, .ref h), (2, .ref (a3 0)), (3, .ref oL), (4, .ref oD), (5, .int (nI i))]) hx hb dL_law_1309 hl (by decide) rfl (fun ls hl => ?_)
  have hl := lv_sub (l' := [(0, .ref b), (1, .ref h), (2, .ref (a3 0)), (3, .ref oL), (4, .ref oD), (5, .int (nI i)), (6, .int r)]) hl [1, 2, 3, 4, 5, 6, 0] rfl
  refine lv_aload_n hx hb dL_law_1311 rfl (lv_at hl 2 rfl) ?_
  refine y_scr (j := 1) (n1 := 1) hx hb hX hbl hbA hS hl rfl rfl (by omega) (by omega) dL_law_1312 dL_law_1313 (fun st k9 => lv_iconst (v := nI 1) hx hb dL_law_1315 (by decide) k9) dL_law_1316 dL_law_1317 ?_
  have hP3 : va_P G vwCl (W3 k a3 C n0 R n1 d th ++ (WL k oL fL1 h a c C n0 ((o_revive (xs (i + 1)) M n1 d).2.2) ds n1 d ++ [(oD, .inl (k 4, 1, .inr (.inr (.inr (.inl fD)))))])) H1 := hP.sub [22, 23, 24, 25, 26, 27, 28, 29, 30, 31, 32, 33, 34, 35, 36, 37, 0, 1, 2, 3, 4, 5, 6, 7, 8, 9, 10, 11, 12, 13, 14, 15, 16, 17, 18, 19, 20, 21] rfl
  have hD3 : va_D (fun q : Nat => s.heap.size ≤ q) (W3 k a3 C n0 R n1 d th ++ (WL k oL fL1 h a c C n0 ((o_revive (xs (i + 1)) M n1 d).2.2) ds n1 d ++ [(oD, .inl (k 4, 1, .inr (.inr (.inr (.inl fD)))))])) := yD (hD.sub (ws' := W3 k a3 C n0 R n1 d th ++ (WL k oL fL h a c C n0 M ds n1 d ++ [(oD, .inl (k 4, 1, .inr (.inr (.inr (.inl fD)))))])) [22, 23, 24, 25, 26, 27, 28, 29, 30, 31, 32, 33, 34, 35, 36, 37, 0, 1, 2, 3, 4, 5, 6, 7, 8, 9, 10, 11, 12, 13, 14, 15, 16, 17, 18, 19, 20, 21] (by decide) rfl) rfl
  refine y_lcall (w1 := W3 k a3 C n0 R n1 d th) (w2 := (WL k oL fL1 h a c C n0 ((o_revive (xs (i + 1)) M n1 d).2.2) ds n1 d ++ [(oD, .inl (k 4, 1, .inr (.inr (.inr (.inl fD)))))])) (va_runV (As := [.int (xs (i + 1))]) (rest := []) ⟨hx, hb, hml, hown, hts⟩ (c_X3_revive l G k a3 C n0 R n1 d th H1.size (xs (i + 1)) ((yD_l hD3).weaken (fun _ _ _ _ => trivial)) hn1) (cwV 1 hts gL_law_X3_revive rfl rfl rfl (by decide +kernel) ⟨Nat.le_of_ble_eq_true rfl, Nat.le_of_ble_eq_true rfl⟩) ⟨yBs_blind, va_recv hK (yP_l hP3) (ci := 5) (q0 := 0) rfl rfl, fun U hU hW => ⟨rfl, by rw [hU], by rw [hU]; exact yP_l hP3, va_K.moved hW.alike hK⟩⟩ rfl rfl hl.1 rfl (lv_room (Nat.le_of_ble_eq_true rfl)) dL_law_1318 ⟨show cells + 2 + 0 ≤ 3132 by omega, show slots + 12 + 0 ≤ 120728 by omega⟩) hP3 hD3 hA hS (fun r2 u2 H2 locs2 hq hP hS => ?_)
  have e9 := rel_revive hY.2 (x := (xs (i + 1))) (n1 := n1) (d := d)
  have ec : ((o_revive (xs (i + 1)) R n1 d)).1 = ((o_revive (xs (i + 1)) M n1 d)).1 := by first | exact e9.1 | exact (rel_revive hY.2 (x := (xs (i + 1))) (n1 := n1) (d := d)).1
  have ea : ((o_revive (xs (i + 1)) R n1 d)).2.1 = ((o_revive (xs (i + 1)) M n1 d)).2.1 := by first | exact e9.2.1 | exact (rel_revive hY.2 (x := (xs (i + 1))) (n1 := n1) (d := d)).2.1
  have hP : va_P G vwCl (W3 k a3 C n0 ((o_revive (xs (i + 1)) R n1 d).2.2) n1 d ((o_revive (xs (i + 1)) R n1 d).1) ++ (WL k oL fL1 h a c C n0 ((o_revive (xs (i + 1)) M n1 d).2.2) ds n1 d ++ [(oD, .inl (k 4, 1, .inr (.inr (.inr (.inl fD)))))])) H2 := hP
  refine lv_istore (lv' := [(7, .int r2), (0, .ref b), (1, .ref h), (2, .ref (a3 0)), (3, .ref oL), (4, .ref oD), (5, .int (nI i)), (6, .int r)]) hx hb dL_law_1321 hl (by decide) rfl (fun ls hl => ?_)
  have hl := lv_sub (l' := [(0, .ref b), (1, .ref h), (2, .ref (a3 0)), (3, .ref oL), (4, .ref oD), (5, .int (nI i)), (6, .int r), (7, .int r2)]) hl [1, 2, 3, 4, 5, 6, 7, 0] rfl
  refine lv_aload_n hx hb dL_law_1323 rfl (lv_at hl 2 rfl) ?_
  refine y_roV (As := []) (rest := []) ⟨hx, hb, hml, hown, hts⟩ (c_X3_thrown l G k a3 C n0 ((o_revive (xs (i + 1)) R n1 d).2.2) n1 d ((o_revive (xs (i + 1)) R n1 d).1)) (cwV 0 hts gL_law_X3_thrown rfl rfl rfl (by decide +kernel) ⟨Nat.le_of_ble_eq_true rfl, Nat.le_of_ble_eq_true rfl⟩) hK (yP_l hP) (va_recv hK (yP_l hP) (ci := 5) (q0 := 0) rfl rfl) rfl hl.1 rfl (Nat.le_of_ble_eq_true rfl) dL_law_1324 ⟨show cells + 2 + 0 ≤ 3132 by omega, show slots + 12 + 0 ≤ 120728 by omega⟩ (fun r3 hr3 => ?_)
  refine lv_iload hx hb dL_law_1327 (lv_at hl 6 rfl) ?_
  refine lv_icmp_eq (tgt := 1334) hx hb dL_law_1329 (by decide) (fun c1 => ?_) (fun c1 => absurd (hr3.trans (ec.trans hp1.symm)) c1)
  have hPf : va_P G vwCl (WA k oL fL1 oD fD h a c a3 C n0 ((o_revive (xs (i + 1)) M n1 d).2.2) ds n1 d ((o_revive (xs (i + 1)) R n1 d).2.2) ((o_revive (xs (i + 1)) R n1 d).1)) H2 := hP.sub [16, 17, 18, 19, 20, 21, 22, 23, 24, 25, 26, 27, 28, 29, 30, 31, 32, 33, 34, 35, 36, 37, 0, 1, 2, 3, 4, 5, 6, 7, 8, 9, 10, 11, 12, 13, 14, 15] rfl
  have hYf : yY C n0 ((o_revive (xs (i + 1)) M n1 d).2.2) ds n1 d ((o_revive (xs (i + 1)) R n1 d).2.2) := yY_revive hY (xs (i + 1))
  have fin : W p l e room_1 s m #[Value.ref b] below meth c_ H2 locs2 (cells + 2 + 0) (slots + 12 + 0) Q (F0 m 1351 ls []) := by
    refine lv_goto (tgt := 1724) hx hb dL_law_1351 (by decide) ?_
    refine W.widen (k := cells + 6) (n := slots + 36) (by omega) (by omega) ?_
    exact kk hPf hYf hS (lv_sub hl [0, 1, 2, 3, 4, 5] rfl)
  refine lv_iload hx hb dL_law_1334 (lv_at hl 6 rfl) ?_
  refine lv_if_ne (tgt := 1351) hx hb dL_law_1336 (by decide) (fun _ => fin) (fun c2 => ?_)
  have h0 := hp2 (by rw [← hp1]; exact c2)
  refine lv_aload_n hx hb dL_law_1339 rfl (lv_at hl 3 rfl) ?_
  refine lv_iconst (v := 0) hx hb dL_law_1340 (by decide) ?_
  refine va_lald hx hb hK hPf 0 3 rfl rfl (vp_in_nI (n := 0) (N := 1) (by decide) (by decide)) dL_law_1341 ?_
  refine lv_iload hx hb dL_law_1342 (lv_at hl 7 rfl) ?_
  refine lv_i2l (v := r2.toInt64) hx hb dL_law_1344 rfl ?_
  refine y_lcmp hx hb (by show fL1 0 = _; rw [h0, hq, ea]) dL_law_1345 ?_
  exact lv_if_eq (tgt := 1351) hx hb dL_law_1346 (by decide) (fun _ => fin) (fun c3 => absurd rfl c3)
set_option maxHeartbeats 4000000 in
set_option maxRecDepth 100000 in
theorem law_clerk {p : Program} {l : Launch} {e : Env} {s : State} {m : MethodId} {below : List Frame} {meth : Method} {c_ : Code} {b L : Nat} {xs : Nat → Int32} {G : va_G} {k : Nat → ClassId} {oL oD h : Nat} {a c a3 : Nat → Nat} (F : LF p l s m meth c_ b L xs G k) {i : Nat} (hi : i + 7 ≤ L) {cells slots : Nat} (hc : cells + 6 ≤ 3132 ∧ slots + 36 ≤ 120728) {Q : State → Prop} {fL : Nat → Int64} {fD : Nat → UInt64} {C : Nat → Nat → Int32} {n0 : Nat} {M : Nat → Nat → Int32} {ds n1 d : Nat} {R : Nat → Nat → Int32} {th : Int32} {H : Heap} {locs : List Loc} (hP : va_P G vwCl (WA k oL fL oD fD h a c a3 C n0 M ds n1 d R th) H) (hD : va_D (fun q : Nat => s.heap.size ≤ q) (WA k oL fL oD fD h a c a3 C n0 M ds n1 d R th)) (hY : yY C n0 M ds n1 d R) (hS : va_S (fun q : Nat => s.heap.size ≤ q) s.heap H locs) {ls : Array Slot} (hl : lv_has ls 9 [(0, .ref b), (1, .ref h), (2, .ref (a3 0)), (3, .ref oL), (4, .ref oD), (5, .int (nI i))]) (kk : LK p l e s m below meth c_ b G k oL oD h a c a3 i cells slots Q) : W p l e room_1 s m #[Value.ref b] below meth c_ H locs cells slots Q (F0 m 1354 ls []) := by
  obtain ⟨hx, hb, hr, hml, hown, hts, hX, hbl, hL, hK, hE, hNC, hl9⟩ := F
  have hA : ∀ q : Nat, s.heap.size ≤ q → (fun q : Nat => s.heap.size ≤ q) q := fun _ h => h
  have hbA : ¬ (fun q : Nat => s.heap.size ≤ q) b := Nat.not_le.mpr hbl
  have hn := hY.1.1
  have hn1 := hY.1.2.1
  have hC := hY.1.2.2.2.1
  have hw : ∀ z, z < n0 → C 4 z = 0 ∨ C 4 z = 1 := fun z _ => hY.1.2.2.2.2.1 z
  have hE1 : yEV0 s H := yEV0_kept hE ⟨hS.1, hS.2.1, fun q hq => nomatch hq⟩ (fun q h1 h2 => absurd h1 (Nat.not_lt.mpr h2))
  refine lv_aload_n hx hb dL_law_1354 rfl (lv_at hl 1 rfl) ?_
  refine y_scr (j := 1) (n1 := 1) hx hb hX hbl hbA hS hl rfl rfl (by omega) (by omega) dL_law_1355 dL_law_1356 (fun st k9 => lv_iconst (v := nI 1) hx hb dL_law_1358 (by decide) k9) dL_law_1359 dL_law_1360 ?_
  refine lv_aload_n hx hb dL_law_1361 rfl (lv_at hl 3 rfl) ?_
  refine y_lcall (w2 := ((oD, .inl (k 4, 1, .inr (.inr (.inr (.inl fD))))) :: W3 k a3 C n0 R n1 d th)) (vx_runSW (As := [.ref h, .int (xs (i + 1)), .ref oL]) (rest := []) ⟨hx, hb, hml, hown, hts⟩ (c_L_clerk l hl9 G k h a c C n0 M ds n1 d oL fL H.size (xs (i + 1)) ((yD_l hD).weaken (fun _ _ _ _ => trivial)) hn1) (vx_cwSW 3 hts gL_law_L_clerk rfl rfl rfl (by decide +kernel) ⟨Nat.le_of_ble_eq_true rfl, Nat.le_of_ble_eq_true rfl⟩) ⟨yL_blind, fun U hU hW => ⟨rfl, by rw [hU], by rw [hU]; exact yP_l hP, va_K.moved hW.alike hK, yEV_at hE1 hU hW, fun z hz => va_Nc.moved hW.alike (hNC z hz)⟩⟩ rfl rfl hl.1 rfl (lv_room (Nat.le_of_ble_eq_true rfl)) dL_law_1362 ⟨show cells + 2 ≤ 3132 by omega, show slots + 12 ≤ 120728 by omega⟩) hP hD hA hS (fun r fL1 H1 locs1 hp hP hS => ?_)
  obtain ⟨hp1, hp2⟩ := hp
  have hP : va_P G vwCl (WL k oL fL1 h a c C n0 M ds n1 d ++ ((oD, .inl (k 4, 1, .inr (.inr (.inr (.inl fD))))) :: W3 k a3 C n0 R n1 d th)) H1 := hP
  refine lv_istore (lv' := [(6, .int r), (0, .ref b), (1, .ref h), (2, .ref (a3 0)), (3, .ref oL), (4, .ref oD), (5, .int (nI i))]) hx hb dL_law_1365 hl (by decide) rfl (fun ls hl => ?_)
  have hl := lv_sub (l' := [(0, .ref b), (1, .ref h), (2, .ref (a3 0)), (3, .ref oL), (4, .ref oD), (5, .int (nI i)), (6, .int r)]) hl [1, 2, 3, 4, 5, 6, 0] rfl
  refine lv_aload_n hx hb dL_law_1367 rfl (lv_at hl 2 rfl) ?_
  refine y_scr (j := 1) (n1 := 1) hx hb hX hbl hbA hS hl rfl rfl (by omega) (by omega) dL_law_1368 dL_law_1369 (fun st k9 => lv_iconst (v := nI 1) hx hb dL_law_1371 (by decide) k9) dL_law_1372 dL_law_1373 ?_
  have hP3 : va_P G vwCl (W3 k a3 C n0 R n1 d th ++ (WL k oL fL1 h a c C n0 M ds n1 d ++ [(oD, .inl (k 4, 1, .inr (.inr (.inr (.inl fD)))))])) H1 := hP.sub [22, 23, 24, 25, 26, 27, 28, 29, 30, 31, 32, 33, 34, 35, 36, 37, 0, 1, 2, 3, 4, 5, 6, 7, 8, 9, 10, 11, 12, 13, 14, 15, 16, 17, 18, 19, 20, 21] rfl
  have hD3 : va_D (fun q : Nat => s.heap.size ≤ q) (W3 k a3 C n0 R n1 d th ++ (WL k oL fL1 h a c C n0 M ds n1 d ++ [(oD, .inl (k 4, 1, .inr (.inr (.inr (.inl fD)))))])) := yD (hD.sub (ws' := W3 k a3 C n0 R n1 d th ++ (WL k oL fL h a c C n0 M ds n1 d ++ [(oD, .inl (k 4, 1, .inr (.inr (.inr (.inl fD)))))])) [22, 23, 24, 25, 26, 27, 28, 29, 30, 31, 32, 33, 34, 35, 36, 37, 0, 1, 2, 3, 4, 5, 6, 7, 8, 9, 10, 11, 12, 13, 14, 15, 16, 17, 18, 19, 20, 21] (by decide) rfl) rfl
  refine y_lcall (w1 := W3 k a3 C n0 R n1 d th) (w2 := (WL k oL fL1 h a c C n0 M ds n1 d ++ [(oD, .inl (k 4, 1, .inr (.inr (.inr (.inl fD)))))])) (va_runV (As := [.int (xs (i + 1))]) (rest := []) ⟨hx, hb, hml, hown, hts⟩ (c_X3_clerk l G k a3 C n0 R n1 d th H1.size (xs (i + 1)) ((yD_l hD3).weaken (fun _ _ _ _ => trivial)) hn1) (cwV 1 hts gL_law_X3_clerk rfl rfl rfl (by decide +kernel) ⟨Nat.le_of_ble_eq_true rfl, Nat.le_of_ble_eq_true rfl⟩) ⟨yBs_blind, va_recv hK (yP_l hP3) (ci := 5) (q0 := 0) rfl rfl, fun U hU hW => ⟨rfl, by rw [hU], by rw [hU]; exact yP_l hP3, va_K.moved hW.alike hK⟩⟩ rfl rfl hl.1 rfl (lv_room (Nat.le_of_ble_eq_true rfl)) dL_law_1374 ⟨show cells + 2 + 0 ≤ 3132 by omega, show slots + 12 + 0 ≤ 120728 by omega⟩) hP3 hD3 hA hS (fun r2 u2 H2 locs2 hq hP hS => ?_)
  have hq9 : (o_rowIf 8 116 (xs (i + 1)) R n1) = (o_rowIf 8 116 (xs (i + 1)) M n1) := rel_rowIf hY.2 hY.2.e8
  have ec : ((o_rowIf 8 116 (xs (i + 1)) R n1)).1 = ((o_rowIf 8 116 (xs (i + 1)) M n1)).1 := congrArg Prod.fst hq9
  have ea : ((o_rowIf 8 116 (xs (i + 1)) R n1)).2 = ((o_rowIf 8 116 (xs (i + 1)) M n1)).2 := congrArg (fun z => z.2) hq9
  have hP : va_P G vwCl (W3 k a3 C n0 R n1 d ((o_rowIf 8 116 (xs (i + 1)) R n1).1) ++ (WL k oL fL1 h a c C n0 M ds n1 d ++ [(oD, .inl (k 4, 1, .inr (.inr (.inr (.inl fD)))))])) H2 := hP
  refine lv_istore (lv' := [(7, .int r2), (0, .ref b), (1, .ref h), (2, .ref (a3 0)), (3, .ref oL), (4, .ref oD), (5, .int (nI i)), (6, .int r)]) hx hb dL_law_1377 hl (by decide) rfl (fun ls hl => ?_)
  have hl := lv_sub (l' := [(0, .ref b), (1, .ref h), (2, .ref (a3 0)), (3, .ref oL), (4, .ref oD), (5, .int (nI i)), (6, .int r), (7, .int r2)]) hl [1, 2, 3, 4, 5, 6, 7, 0] rfl
  refine lv_aload_n hx hb dL_law_1379 rfl (lv_at hl 2 rfl) ?_
  refine y_roV (As := []) (rest := []) ⟨hx, hb, hml, hown, hts⟩ (c_X3_thrown l G k a3 C n0 R n1 d ((o_rowIf 8 116 (xs (i + 1)) R n1).1)) (cwV 0 hts gL_law_X3_thrown rfl rfl rfl (by decide +kernel) ⟨Nat.le_of_ble_eq_true rfl, Nat.le_of_ble_eq_true rfl⟩) hK (yP_l hP) (va_recv hK (yP_l hP) (ci := 5) (q0 := 0) rfl rfl) rfl hl.1 rfl (Nat.le_of_ble_eq_true rfl) dL_law_1380 ⟨show cells + 2 + 0 ≤ 3132 by omega, show slots + 12 + 0 ≤ 120728 by omega⟩ (fun r3 hr3 => ?_)
  refine lv_iload hx hb dL_law_1383 (lv_at hl 6 rfl) ?_
  refine lv_icmp_eq (tgt := 1390) hx hb dL_law_1385 (by decide) (fun c1 => ?_) (fun c1 => absurd (hr3.trans (ec.trans hp1.symm)) c1)
  have hPf : va_P G vwCl (WA k oL fL1 oD fD h a c a3 C n0 M ds n1 d R ((o_rowIf 8 116 (xs (i + 1)) R n1).1)) H2 := hP.sub [16, 17, 18, 19, 20, 21, 22, 23, 24, 25, 26, 27, 28, 29, 30, 31, 32, 33, 34, 35, 36, 37, 0, 1, 2, 3, 4, 5, 6, 7, 8, 9, 10, 11, 12, 13, 14, 15] rfl
  have hYf : yY C n0 M ds n1 d R := hY
  have fin : W p l e room_1 s m #[Value.ref b] below meth c_ H2 locs2 (cells + 2 + 0) (slots + 12 + 0) Q (F0 m 1407 ls []) := by
    refine lv_goto (tgt := 1724) hx hb dL_law_1407 (by decide) ?_
    refine W.widen (k := cells + 6) (n := slots + 36) (by omega) (by omega) ?_
    exact kk hPf hYf hS (lv_sub hl [0, 1, 2, 3, 4, 5] rfl)
  refine lv_iload hx hb dL_law_1390 (lv_at hl 6 rfl) ?_
  refine lv_if_ne (tgt := 1407) hx hb dL_law_1392 (by decide) (fun _ => fin) (fun c2 => ?_)
  have h0 := hp2 (by rw [← hp1]; exact c2)
  refine lv_aload_n hx hb dL_law_1395 rfl (lv_at hl 3 rfl) ?_
  refine lv_iconst (v := 0) hx hb dL_law_1396 (by decide) ?_
  refine va_lald hx hb hK hPf 0 3 rfl rfl (vp_in_nI (n := 0) (N := 1) (by decide) (by decide)) dL_law_1397 ?_
  refine lv_iload hx hb dL_law_1398 (lv_at hl 7 rfl) ?_
  refine lv_i2l (v := r2.toInt64) hx hb dL_law_1400 rfl ?_
  refine y_lcmp hx hb (by show fL1 0 = _; rw [h0, hq, ea]) dL_law_1401 ?_
  exact lv_if_eq (tgt := 1407) hx hb dL_law_1402 (by decide) (fun _ => fin) (fun c3 => absurd rfl c3)
set_option maxHeartbeats 4000000 in
set_option maxRecDepth 100000 in
theorem law_has {p : Program} {l : Launch} {e : Env} {s : State} {m : MethodId} {below : List Frame} {meth : Method} {c_ : Code} {b L : Nat} {xs : Nat → Int32} {G : va_G} {k : Nat → ClassId} {oL oD h : Nat} {a c a3 : Nat → Nat} (F : LF p l s m meth c_ b L xs G k) {i : Nat} (hi : i + 7 ≤ L) {cells slots : Nat} (hc : cells + 6 ≤ 3132 ∧ slots + 36 ≤ 120728) {Q : State → Prop} {fL : Nat → Int64} {fD : Nat → UInt64} {C : Nat → Nat → Int32} {n0 : Nat} {M : Nat → Nat → Int32} {ds n1 d : Nat} {R : Nat → Nat → Int32} {th : Int32} {H : Heap} {locs : List Loc} (hP : va_P G vwCl (WA k oL fL oD fD h a c a3 C n0 M ds n1 d R th) H) (hD : va_D (fun q : Nat => s.heap.size ≤ q) (WA k oL fL oD fD h a c a3 C n0 M ds n1 d R th)) (hY : yY C n0 M ds n1 d R) (hS : va_S (fun q : Nat => s.heap.size ≤ q) s.heap H locs) {ls : Array Slot} (hl : lv_has ls 9 [(0, .ref b), (1, .ref h), (2, .ref (a3 0)), (3, .ref oL), (4, .ref oD), (5, .int (nI i))]) (kk : LK p l e s m below meth c_ b G k oL oD h a c a3 i cells slots Q) : W p l e room_1 s m #[Value.ref b] below meth c_ H locs cells slots Q (F0 m 1410 ls []) := by
  obtain ⟨hx, hb, hr, hml, hown, hts, hX, hbl, hL, hK, hE, hNC, hl9⟩ := F
  have hA : ∀ q : Nat, s.heap.size ≤ q → (fun q : Nat => s.heap.size ≤ q) q := fun _ h => h
  have hbA : ¬ (fun q : Nat => s.heap.size ≤ q) b := Nat.not_le.mpr hbl
  have hn := hY.1.1
  have hn1 := hY.1.2.1
  have hC := hY.1.2.2.2.1
  have hw : ∀ z, z < n0 → C 4 z = 0 ∨ C 4 z = 1 := fun z _ => hY.1.2.2.2.2.1 z
  have hE1 : yEV0 s H := yEV0_kept hE ⟨hS.1, hS.2.1, fun q hq => nomatch hq⟩ (fun q h1 h2 => absurd h1 (Nat.not_lt.mpr h2))
  refine lv_aload_n hx hb dL_law_1410 rfl (lv_at hl 1 rfl) ?_
  refine y_scr (j := 1) (n1 := 1) hx hb hX hbl hbA hS hl rfl rfl (by omega) (by omega) dL_law_1411 dL_law_1412 (fun st k9 => lv_iconst (v := nI 1) hx hb dL_law_1414 (by decide) k9) dL_law_1415 dL_law_1416 ?_
  refine lv_aload_n hx hb dL_law_1417 rfl (lv_at hl 3 rfl) ?_
  refine y_lcall (w2 := ((oD, .inl (k 4, 1, .inr (.inr (.inr (.inl fD))))) :: W3 k a3 C n0 R n1 d th)) (vx_runSW (As := [.ref h, .int (xs (i + 1)), .ref oL]) (rest := []) ⟨hx, hb, hml, hown, hts⟩ (c_L_has l hl9 G k h a c C n0 M ds n1 d oL fL H.size (xs (i + 1)) ((yD_l hD).weaken (fun _ _ _ _ => trivial)) hn1) (vx_cwSW 3 hts gL_law_L_has rfl rfl rfl (by decide +kernel) ⟨Nat.le_of_ble_eq_true rfl, Nat.le_of_ble_eq_true rfl⟩) ⟨yL_blind, fun U hU hW => ⟨rfl, by rw [hU], by rw [hU]; exact yP_l hP, va_K.moved hW.alike hK, yEV_at hE1 hU hW, fun z hz => va_Nc.moved hW.alike (hNC z hz)⟩⟩ rfl rfl hl.1 rfl (lv_room (Nat.le_of_ble_eq_true rfl)) dL_law_1418 ⟨show cells + 1 ≤ 3132 by omega, show slots + 6 ≤ 120728 by omega⟩) hP hD hA hS (fun r fL1 H1 locs1 hp hP hS => ?_)
  obtain ⟨hp1, hp2⟩ := hp
  have hP : va_P G vwCl (WL k oL fL1 h a c C n0 M ds n1 d ++ ((oD, .inl (k 4, 1, .inr (.inr (.inr (.inl fD))))) :: W3 k a3 C n0 R n1 d th)) H1 := hP
  refine lv_istore (lv' := [(6, .int r), (0, .ref b), (1, .ref h), (2, .ref (a3 0)), (3, .ref oL), (4, .ref oD), (5, .int (nI i))]) hx hb dL_law_1421 hl (by decide) rfl (fun ls hl => ?_)
  have hl := lv_sub (l' := [(0, .ref b), (1, .ref h), (2, .ref (a3 0)), (3, .ref oL), (4, .ref oD), (5, .int (nI i)), (6, .int r)]) hl [1, 2, 3, 4, 5, 6, 0] rfl
  refine lv_aload_n hx hb dL_law_1423 rfl (lv_at hl 2 rfl) ?_
  refine y_scr (j := 1) (n1 := 1) hx hb hX hbl hbA hS hl rfl rfl (by omega) (by omega) dL_law_1424 dL_law_1425 (fun st k9 => lv_iconst (v := nI 1) hx hb dL_law_1427 (by decide) k9) dL_law_1428 dL_law_1429 ?_
  have hP3 : va_P G vwCl (W3 k a3 C n0 R n1 d th ++ (WL k oL fL1 h a c C n0 M ds n1 d ++ [(oD, .inl (k 4, 1, .inr (.inr (.inr (.inl fD)))))])) H1 := hP.sub [22, 23, 24, 25, 26, 27, 28, 29, 30, 31, 32, 33, 34, 35, 36, 37, 0, 1, 2, 3, 4, 5, 6, 7, 8, 9, 10, 11, 12, 13, 14, 15, 16, 17, 18, 19, 20, 21] rfl
  have hD3 : va_D (fun q : Nat => s.heap.size ≤ q) (W3 k a3 C n0 R n1 d th ++ (WL k oL fL1 h a c C n0 M ds n1 d ++ [(oD, .inl (k 4, 1, .inr (.inr (.inr (.inl fD)))))])) := yD (hD.sub (ws' := W3 k a3 C n0 R n1 d th ++ (WL k oL fL h a c C n0 M ds n1 d ++ [(oD, .inl (k 4, 1, .inr (.inr (.inr (.inl fD)))))])) [22, 23, 24, 25, 26, 27, 28, 29, 30, 31, 32, 33, 34, 35, 36, 37, 0, 1, 2, 3, 4, 5, 6, 7, 8, 9, 10, 11, 12, 13, 14, 15, 16, 17, 18, 19, 20, 21] (by decide) rfl) rfl
  refine y_lcall (w1 := W3 k a3 C n0 R n1 d th) (w2 := (WL k oL fL1 h a c C n0 M ds n1 d ++ [(oD, .inl (k 4, 1, .inr (.inr (.inr (.inl fD)))))])) (va_runV (As := [.int (xs (i + 1))]) (rest := []) ⟨hx, hb, hml, hown, hts⟩ (c_X3_has l G k a3 C n0 R n1 d th H1.size (xs (i + 1)) ((yD_l hD3).weaken (fun _ _ _ _ => trivial)) hn1) (cwV 1 hts gL_law_X3_has rfl rfl rfl (by decide +kernel) ⟨Nat.le_of_ble_eq_true rfl, Nat.le_of_ble_eq_true rfl⟩) ⟨yBs_blind, va_recv hK (yP_l hP3) (ci := 5) (q0 := 0) rfl rfl, fun U hU hW => ⟨rfl, by rw [hU], by rw [hU]; exact yP_l hP3, va_K.moved hW.alike hK⟩⟩ rfl rfl hl.1 rfl (lv_room (Nat.le_of_ble_eq_true rfl)) dL_law_1430 ⟨show cells + 1 + 0 ≤ 3132 by omega, show slots + 6 + 0 ≤ 120728 by omega⟩) hP3 hD3 hA hS (fun r2 u2 H2 locs2 hq hP hS => ?_)
  have hq9 : (o_has (xs (i + 1)) R n1) = (o_has (xs (i + 1)) M n1) := rel_has hY.2
  have ec : ((o_has (xs (i + 1)) R n1)).1 = ((o_has (xs (i + 1)) M n1)).1 := congrArg Prod.fst hq9
  have ea : ((o_has (xs (i + 1)) R n1)).2 = ((o_has (xs (i + 1)) M n1)).2 := congrArg (fun z => z.2) hq9
  have hP : va_P G vwCl (W3 k a3 C n0 R n1 d ((o_has (xs (i + 1)) R n1).1) ++ (WL k oL fL1 h a c C n0 M ds n1 d ++ [(oD, .inl (k 4, 1, .inr (.inr (.inr (.inl fD)))))])) H2 := hP
  refine lv_istore (lv' := [(7, .int r2), (0, .ref b), (1, .ref h), (2, .ref (a3 0)), (3, .ref oL), (4, .ref oD), (5, .int (nI i)), (6, .int r)]) hx hb dL_law_1433 hl (by decide) rfl (fun ls hl => ?_)
  have hl := lv_sub (l' := [(0, .ref b), (1, .ref h), (2, .ref (a3 0)), (3, .ref oL), (4, .ref oD), (5, .int (nI i)), (6, .int r), (7, .int r2)]) hl [1, 2, 3, 4, 5, 6, 7, 0] rfl
  refine lv_aload_n hx hb dL_law_1435 rfl (lv_at hl 2 rfl) ?_
  refine y_roV (As := []) (rest := []) ⟨hx, hb, hml, hown, hts⟩ (c_X3_thrown l G k a3 C n0 R n1 d ((o_has (xs (i + 1)) R n1).1)) (cwV 0 hts gL_law_X3_thrown rfl rfl rfl (by decide +kernel) ⟨Nat.le_of_ble_eq_true rfl, Nat.le_of_ble_eq_true rfl⟩) hK (yP_l hP) (va_recv hK (yP_l hP) (ci := 5) (q0 := 0) rfl rfl) rfl hl.1 rfl (Nat.le_of_ble_eq_true rfl) dL_law_1436 ⟨show cells + 1 + 0 ≤ 3132 by omega, show slots + 6 + 0 ≤ 120728 by omega⟩ (fun r3 hr3 => ?_)
  refine lv_iload hx hb dL_law_1439 (lv_at hl 6 rfl) ?_
  refine lv_icmp_eq (tgt := 1446) hx hb dL_law_1441 (by decide) (fun c1 => ?_) (fun c1 => absurd (hr3.trans (ec.trans hp1.symm)) c1)
  have hPf : va_P G vwCl (WA k oL fL1 oD fD h a c a3 C n0 M ds n1 d R ((o_has (xs (i + 1)) R n1).1)) H2 := hP.sub [16, 17, 18, 19, 20, 21, 22, 23, 24, 25, 26, 27, 28, 29, 30, 31, 32, 33, 34, 35, 36, 37, 0, 1, 2, 3, 4, 5, 6, 7, 8, 9, 10, 11, 12, 13, 14, 15] rfl
  have hYf : yY C n0 M ds n1 d R := hY
  have fin : W p l e room_1 s m #[Value.ref b] below meth c_ H2 locs2 (cells + 1 + 0) (slots + 6 + 0) Q (F0 m 1463 ls []) := by
    refine lv_goto (tgt := 1724) hx hb dL_law_1463 (by decide) ?_
    refine W.widen (k := cells + 6) (n := slots + 36) (by omega) (by omega) ?_
    exact kk hPf hYf hS (lv_sub hl [0, 1, 2, 3, 4, 5] rfl)
  refine lv_iload hx hb dL_law_1446 (lv_at hl 6 rfl) ?_
  refine lv_if_ne (tgt := 1463) hx hb dL_law_1448 (by decide) (fun _ => fin) (fun c2 => ?_)
  have h0 := hp2 (by rw [← hp1]; exact c2)
  refine lv_aload_n hx hb dL_law_1451 rfl (lv_at hl 3 rfl) ?_
  refine lv_iconst (v := 0) hx hb dL_law_1452 (by decide) ?_
  refine va_lald hx hb hK hPf 0 3 rfl rfl (vp_in_nI (n := 0) (N := 1) (by decide) (by decide)) dL_law_1453 ?_
  refine lv_iload hx hb dL_law_1454 (lv_at hl 7 rfl) ?_
  refine lv_i2l (v := r2.toInt64) hx hb dL_law_1456 rfl ?_
  refine y_lcmp hx hb (by show fL1 0 = _; rw [h0, hq, ea]) dL_law_1457 ?_
  exact lv_if_eq (tgt := 1463) hx hb dL_law_1458 (by decide) (fun _ => fin) (fun c3 => absurd rfl c3)
set_option maxHeartbeats 4000000 in
set_option maxRecDepth 100000 in
theorem law_pass {p : Program} {l : Launch} {e : Env} {s : State} {m : MethodId} {below : List Frame} {meth : Method} {c_ : Code} {b L : Nat} {xs : Nat → Int32} {G : va_G} {k : Nat → ClassId} {oL oD h : Nat} {a c a3 : Nat → Nat} (F : LF p l s m meth c_ b L xs G k) {i : Nat} (hi : i + 7 ≤ L) {cells slots : Nat} (hc : cells + 6 ≤ 3132 ∧ slots + 36 ≤ 120728) {Q : State → Prop} {fL : Nat → Int64} {fD : Nat → UInt64} {C : Nat → Nat → Int32} {n0 : Nat} {M : Nat → Nat → Int32} {ds n1 d : Nat} {R : Nat → Nat → Int32} {th : Int32} {H : Heap} {locs : List Loc} (hP : va_P G vwCl (WA k oL fL oD fD h a c a3 C n0 M ds n1 d R th) H) (hD : va_D (fun q : Nat => s.heap.size ≤ q) (WA k oL fL oD fD h a c a3 C n0 M ds n1 d R th)) (hY : yY C n0 M ds n1 d R) (hS : va_S (fun q : Nat => s.heap.size ≤ q) s.heap H locs) {ls : Array Slot} (hl : lv_has ls 9 [(0, .ref b), (1, .ref h), (2, .ref (a3 0)), (3, .ref oL), (4, .ref oD), (5, .int (nI i))]) (kk : LK p l e s m below meth c_ b G k oL oD h a c a3 i cells slots Q) : W p l e room_1 s m #[Value.ref b] below meth c_ H locs cells slots Q (F0 m 1466 ls []) := by
  obtain ⟨hx, hb, hr, hml, hown, hts, hX, hbl, hL, hK, hE, hNC, hl9⟩ := F
  have hA : ∀ q : Nat, s.heap.size ≤ q → (fun q : Nat => s.heap.size ≤ q) q := fun _ h => h
  have hbA : ¬ (fun q : Nat => s.heap.size ≤ q) b := Nat.not_le.mpr hbl
  have hn := hY.1.1
  have hn1 := hY.1.2.1
  have hC := hY.1.2.2.2.1
  have hw : ∀ z, z < n0 → C 4 z = 0 ∨ C 4 z = 1 := fun z _ => hY.1.2.2.2.2.1 z
  have hE1 : yEV0 s H := yEV0_kept hE ⟨hS.1, hS.2.1, fun q hq => nomatch hq⟩ (fun q h1 h2 => absurd h1 (Nat.not_lt.mpr h2))
  refine lv_aload_n hx hb dL_law_1466 rfl (lv_at hl 1 rfl) ?_
  refine y_scr (j := 1) (n1 := 1) hx hb hX hbl hbA hS hl rfl rfl (by omega) (by omega) dL_law_1467 dL_law_1468 (fun st k9 => lv_iconst (v := nI 1) hx hb dL_law_1470 (by decide) k9) dL_law_1471 dL_law_1472 ?_
  refine lv_aload_n hx hb dL_law_1473 rfl (lv_at hl 3 rfl) ?_
  refine y_lcall (w2 := ((oD, .inl (k 4, 1, .inr (.inr (.inr (.inl fD))))) :: W3 k a3 C n0 R n1 d th)) (vx_runSW (As := [.ref h, .int (xs (i + 1)), .ref oL]) (rest := []) ⟨hx, hb, hml, hown, hts⟩ (c_L_pass l hl9 G k h a c C n0 M ds n1 d oL fL H.size (xs (i + 1)) ((yD_l hD).weaken (fun _ _ _ _ => trivial)) hn hn1) (vx_cwSW 3 hts gL_law_L_pass rfl rfl rfl (by decide +kernel) ⟨Nat.le_of_ble_eq_true rfl, Nat.le_of_ble_eq_true rfl⟩) ⟨yL_blind, fun U hU hW => ⟨rfl, by rw [hU], by rw [hU]; exact yP_l hP, va_K.moved hW.alike hK, yEV_at hE1 hU hW, fun z hz => va_Nc.moved hW.alike (hNC z hz)⟩⟩ rfl rfl hl.1 rfl (lv_room (Nat.le_of_ble_eq_true rfl)) dL_law_1474 ⟨show cells + 1 ≤ 3132 by omega, show slots + 6 ≤ 120728 by omega⟩) hP hD hA hS (fun r fL1 H1 locs1 hp hP hS => ?_)
  obtain ⟨hp1, hp2⟩ := hp
  have hP : va_P G vwCl (WL k oL fL1 h a c C n0 ((o_passC (xs (i + 1)) C n0 M n1 d).2.1.2.1) ds ((o_passC (xs (i + 1)) C n0 M n1 d).2.1.2.2) ((o_passC (xs (i + 1)) C n0 M n1 d).2.2) ++ ((oD, .inl (k 4, 1, .inr (.inr (.inr (.inl fD))))) :: W3 k a3 C n0 R n1 d th)) H1 := hP
  refine lv_istore (lv' := [(6, .int r), (0, .ref b), (1, .ref h), (2, .ref (a3 0)), (3, .ref oL), (4, .ref oD), (5, .int (nI i))]) hx hb dL_law_1477 hl (by decide) rfl (fun ls hl => ?_)
  have hl := lv_sub (l' := [(0, .ref b), (1, .ref h), (2, .ref (a3 0)), (3, .ref oL), (4, .ref oD), (5, .int (nI i)), (6, .int r)]) hl [1, 2, 3, 4, 5, 6, 0] rfl
  refine lv_aload_n hx hb dL_law_1479 rfl (lv_at hl 2 rfl) ?_
  refine y_scr (j := 1) (n1 := 1) hx hb hX hbl hbA hS hl rfl rfl (by omega) (by omega) dL_law_1480 dL_law_1481 (fun st k9 => lv_iconst (v := nI 1) hx hb dL_law_1483 (by decide) k9) dL_law_1484 dL_law_1485 ?_
  have hP3 : va_P G vwCl (W3 k a3 C n0 R n1 d th ++ (WL k oL fL1 h a c C n0 ((o_passC (xs (i + 1)) C n0 M n1 d).2.1.2.1) ds ((o_passC (xs (i + 1)) C n0 M n1 d).2.1.2.2) ((o_passC (xs (i + 1)) C n0 M n1 d).2.2) ++ [(oD, .inl (k 4, 1, .inr (.inr (.inr (.inl fD)))))])) H1 := hP.sub [22, 23, 24, 25, 26, 27, 28, 29, 30, 31, 32, 33, 34, 35, 36, 37, 0, 1, 2, 3, 4, 5, 6, 7, 8, 9, 10, 11, 12, 13, 14, 15, 16, 17, 18, 19, 20, 21] rfl
  have hD3 : va_D (fun q : Nat => s.heap.size ≤ q) (W3 k a3 C n0 R n1 d th ++ (WL k oL fL1 h a c C n0 ((o_passC (xs (i + 1)) C n0 M n1 d).2.1.2.1) ds ((o_passC (xs (i + 1)) C n0 M n1 d).2.1.2.2) ((o_passC (xs (i + 1)) C n0 M n1 d).2.2) ++ [(oD, .inl (k 4, 1, .inr (.inr (.inr (.inl fD)))))])) := yD (hD.sub (ws' := W3 k a3 C n0 R n1 d th ++ (WL k oL fL h a c C n0 M ds n1 d ++ [(oD, .inl (k 4, 1, .inr (.inr (.inr (.inl fD)))))])) [22, 23, 24, 25, 26, 27, 28, 29, 30, 31, 32, 33, 34, 35, 36, 37, 0, 1, 2, 3, 4, 5, 6, 7, 8, 9, 10, 11, 12, 13, 14, 15, 16, 17, 18, 19, 20, 21] (by decide) rfl) rfl
  refine y_lcall (w1 := W3 k a3 C n0 R n1 d th) (w2 := (WL k oL fL1 h a c C n0 ((o_passC (xs (i + 1)) C n0 M n1 d).2.1.2.1) ds ((o_passC (xs (i + 1)) C n0 M n1 d).2.1.2.2) ((o_passC (xs (i + 1)) C n0 M n1 d).2.2) ++ [(oD, .inl (k 4, 1, .inr (.inr (.inr (.inl fD)))))])) (va_runV (As := [.int (xs (i + 1))]) (rest := []) ⟨hx, hb, hml, hown, hts⟩ (c_X3_pass l G k a3 C n0 R n1 d th H1.size (xs (i + 1)) ((yD_l hD3).weaken (fun _ _ _ _ => trivial)) hn hn1) (cwV 1 hts gL_law_X3_pass rfl rfl rfl (by decide +kernel) ⟨Nat.le_of_ble_eq_true rfl, Nat.le_of_ble_eq_true rfl⟩) ⟨yBs_blind, va_recv hK (yP_l hP3) (ci := 5) (q0 := 0) rfl rfl, fun U hU hW => ⟨rfl, by rw [hU], by rw [hU]; exact yP_l hP3, va_K.moved hW.alike hK⟩⟩ rfl rfl hl.1 rfl (lv_room (Nat.le_of_ble_eq_true rfl)) dL_law_1486 ⟨show cells + 1 + 0 ≤ 3132 by omega, show slots + 6 + 0 ≤ 120728 by omega⟩) hP3 hD3 hA hS (fun r2 u2 H2 locs2 hq hP hS => ?_)
  have e9 := yY_pass hY (xs (i + 1))
  have ec : ((o_pass (xs (i + 1)) C n0 R n1 d)).1 = ((o_passC (xs (i + 1)) C n0 M n1 d)).1 := by first | exact e9.1 | exact (yY_pass hY (xs (i + 1))).1
  have ea : ((o_pass (xs (i + 1)) C n0 R n1 d)).2.1.1 = ((o_passC (xs (i + 1)) C n0 M n1 d)).2.1.1 := by first | exact e9.2.1 | exact (yY_pass hY (xs (i + 1))).2.1
  have hP : va_P G vwCl (W3 k a3 C n0 ((o_pass (xs (i + 1)) C n0 R n1 d).2.1.2.1) ((o_pass (xs (i + 1)) C n0 R n1 d).2.1.2.2) ((o_pass (xs (i + 1)) C n0 R n1 d).2.2) ((o_pass (xs (i + 1)) C n0 R n1 d).1) ++ (WL k oL fL1 h a c C n0 ((o_passC (xs (i + 1)) C n0 M n1 d).2.1.2.1) ds ((o_passC (xs (i + 1)) C n0 M n1 d).2.1.2.2) ((o_passC (xs (i + 1)) C n0 M n1 d).2.2) ++ [(oD, .inl (k 4, 1, .inr (.inr (.inr (.inl fD)))))])) H2 := hP
  refine lv_istore (lv' := [(7, .int r2), (0, .ref b), (1, .ref h), (2, .ref (a3 0)), (3, .ref oL), (4, .ref oD), (5, .int (nI i)), (6, .int r)]) hx hb dL_law_1489 hl (by decide) rfl (fun ls hl => ?_)
  have hl := lv_sub (l' := [(0, .ref b), (1, .ref h), (2, .ref (a3 0)), (3, .ref oL), (4, .ref oD), (5, .int (nI i)), (6, .int r), (7, .int r2)]) hl [1, 2, 3, 4, 5, 6, 7, 0] rfl
  refine lv_aload_n hx hb dL_law_1491 rfl (lv_at hl 2 rfl) ?_
  refine y_roV (As := []) (rest := []) ⟨hx, hb, hml, hown, hts⟩ (c_X3_thrown l G k a3 C n0 ((o_pass (xs (i + 1)) C n0 R n1 d).2.1.2.1) ((o_pass (xs (i + 1)) C n0 R n1 d).2.1.2.2) ((o_pass (xs (i + 1)) C n0 R n1 d).2.2) ((o_pass (xs (i + 1)) C n0 R n1 d).1)) (cwV 0 hts gL_law_X3_thrown rfl rfl rfl (by decide +kernel) ⟨Nat.le_of_ble_eq_true rfl, Nat.le_of_ble_eq_true rfl⟩) hK (yP_l hP) (va_recv hK (yP_l hP) (ci := 5) (q0 := 0) rfl rfl) rfl hl.1 rfl (Nat.le_of_ble_eq_true rfl) dL_law_1492 ⟨show cells + 1 + 0 ≤ 3132 by omega, show slots + 6 + 0 ≤ 120728 by omega⟩ (fun r3 hr3 => ?_)
  refine lv_iload hx hb dL_law_1495 (lv_at hl 6 rfl) ?_
  refine lv_icmp_eq (tgt := 1502) hx hb dL_law_1497 (by decide) (fun c1 => ?_) (fun c1 => absurd (hr3.trans (ec.trans hp1.symm)) c1)
  rw [e9.2.2.1, e9.2.2.2.1] at hP
  have hPf : va_P G vwCl (WA k oL fL1 oD fD h a c a3 C n0 ((o_passC (xs (i + 1)) C n0 M n1 d).2.1.2.1) ds ((o_passC (xs (i + 1)) C n0 M n1 d).2.1.2.2) ((o_passC (xs (i + 1)) C n0 M n1 d).2.2) ((o_pass (xs (i + 1)) C n0 R n1 d).2.1.2.1) ((o_pass (xs (i + 1)) C n0 R n1 d).1)) H2 := hP.sub [16, 17, 18, 19, 20, 21, 22, 23, 24, 25, 26, 27, 28, 29, 30, 31, 32, 33, 34, 35, 36, 37, 0, 1, 2, 3, 4, 5, 6, 7, 8, 9, 10, 11, 12, 13, 14, 15] rfl
  have hYf : yY C n0 ((o_passC (xs (i + 1)) C n0 M n1 d).2.1.2.1) ds ((o_passC (xs (i + 1)) C n0 M n1 d).2.1.2.2) ((o_passC (xs (i + 1)) C n0 M n1 d).2.2) ((o_pass (xs (i + 1)) C n0 R n1 d).2.1.2.1) := (yY_pass hY (xs (i + 1))).2.2.2.2
  have fin : W p l e room_1 s m #[Value.ref b] below meth c_ H2 locs2 (cells + 1 + 0) (slots + 6 + 0) Q (F0 m 1519 ls []) := by
    refine lv_goto (tgt := 1724) hx hb dL_law_1519 (by decide) ?_
    refine W.widen (k := cells + 6) (n := slots + 36) (by omega) (by omega) ?_
    exact kk hPf hYf hS (lv_sub hl [0, 1, 2, 3, 4, 5] rfl)
  refine lv_iload hx hb dL_law_1502 (lv_at hl 6 rfl) ?_
  refine lv_if_ne (tgt := 1519) hx hb dL_law_1504 (by decide) (fun _ => fin) (fun c2 => ?_)
  have h0 := hp2 (by rw [← hp1]; exact c2)
  refine lv_aload_n hx hb dL_law_1507 rfl (lv_at hl 3 rfl) ?_
  refine lv_iconst (v := 0) hx hb dL_law_1508 (by decide) ?_
  refine va_lald hx hb hK hPf 0 3 rfl rfl (vp_in_nI (n := 0) (N := 1) (by decide) (by decide)) dL_law_1509 ?_
  refine lv_iload hx hb dL_law_1510 (lv_at hl 7 rfl) ?_
  refine lv_i2l (v := r2.toInt64) hx hb dL_law_1512 rfl ?_
  refine y_lcmp hx hb (by show fL1 0 = _; rw [h0, hq, ea]) dL_law_1513 ?_
  exact lv_if_eq (tgt := 1519) hx hb dL_law_1514 (by decide) (fun _ => fin) (fun c3 => absurd rfl c3)
set_option maxHeartbeats 4000000 in
set_option maxRecDepth 100000 in
theorem law_count {p : Program} {l : Launch} {e : Env} {s : State} {m : MethodId} {below : List Frame} {meth : Method} {c_ : Code} {b L : Nat} {xs : Nat → Int32} {G : va_G} {k : Nat → ClassId} {oL oD h : Nat} {a c a3 : Nat → Nat} (F : LF p l s m meth c_ b L xs G k) {i : Nat} (hi : i + 7 ≤ L) {cells slots : Nat} (hc : cells + 6 ≤ 3132 ∧ slots + 36 ≤ 120728) {Q : State → Prop} {fL : Nat → Int64} {fD : Nat → UInt64} {C : Nat → Nat → Int32} {n0 : Nat} {M : Nat → Nat → Int32} {ds n1 d : Nat} {R : Nat → Nat → Int32} {th : Int32} {H : Heap} {locs : List Loc} (hP : va_P G vwCl (WA k oL fL oD fD h a c a3 C n0 M ds n1 d R th) H) (hD : va_D (fun q : Nat => s.heap.size ≤ q) (WA k oL fL oD fD h a c a3 C n0 M ds n1 d R th)) (hY : yY C n0 M ds n1 d R) (hS : va_S (fun q : Nat => s.heap.size ≤ q) s.heap H locs) {ls : Array Slot} (hl : lv_has ls 9 [(0, .ref b), (1, .ref h), (2, .ref (a3 0)), (3, .ref oL), (4, .ref oD), (5, .int (nI i))]) (kk : LK p l e s m below meth c_ b G k oL oD h a c a3 i cells slots Q) : W p l e room_1 s m #[Value.ref b] below meth c_ H locs cells slots Q (F0 m 1535 ls []) := by
  obtain ⟨hx, hb, hr, hml, hown, hts, hX, hbl, hL, hK, hE, hNC, hl9⟩ := F
  have hA : ∀ q : Nat, s.heap.size ≤ q → (fun q : Nat => s.heap.size ≤ q) q := fun _ h => h
  have hbA : ¬ (fun q : Nat => s.heap.size ≤ q) b := Nat.not_le.mpr hbl
  have hn := hY.1.1
  have hn1 := hY.1.2.1
  have hC := hY.1.2.2.2.1
  have hw : ∀ z, z < n0 → C 4 z = 0 ∨ C 4 z = 1 := fun z _ => hY.1.2.2.2.2.1 z
  have hE1 : yEV0 s H := yEV0_kept hE ⟨hS.1, hS.2.1, fun q hq => nomatch hq⟩ (fun q h1 h2 => absurd h1 (Nat.not_lt.mpr h2))
  refine lv_aload_n hx hb dL_law_1535 rfl (lv_at hl 1 rfl) ?_
  refine y_scr (j := 1) (n1 := 1) hx hb hX hbl hbA hS hl rfl rfl (by omega) (by omega) dL_law_1536 dL_law_1537 (fun st k9 => lv_iconst (v := nI 1) hx hb dL_law_1539 (by decide) k9) dL_law_1540 dL_law_1541 ?_
  refine lv_i2c (v := ((xs (i + 1)).toUInt32 % 65536).toInt32) hx hb dL_law_1542 rfl ?_
  refine lv_aload_n hx hb dL_law_1543 rfl (lv_at hl 3 rfl) ?_
  refine y_lcall (w2 := ((oD, .inl (k 4, 1, .inr (.inr (.inr (.inl fD))))) :: W3 k a3 C n0 R n1 d th)) (vx_runSW (As := [.ref h, .int (((xs (i + 1)).toUInt32 % 65536).toInt32), .ref oL]) (rest := []) ⟨hx, hb, hml, hown, hts⟩ (c_L_count l hl9 G k h a c C n0 M ds n1 d oL fL H.size (((xs (i + 1)).toUInt32 % 65536).toInt32) ((yD_l hD).weaken (fun _ _ _ _ => trivial)) hn1) (vx_cwSW 3 hts gL_law_L_count rfl rfl rfl (by decide +kernel) ⟨Nat.le_of_ble_eq_true rfl, Nat.le_of_ble_eq_true rfl⟩) ⟨yL_blind, fun U hU hW => ⟨rfl, by rw [hU], by rw [hU]; exact yP_l hP, va_K.moved hW.alike hK, yEV_at hE1 hU hW, fun z hz => va_Nc.moved hW.alike (hNC z hz)⟩⟩ rfl rfl hl.1 rfl (lv_room (Nat.le_of_ble_eq_true rfl)) dL_law_1544 ⟨show cells + 1 ≤ 3132 by omega, show slots + 6 ≤ 120728 by omega⟩) hP hD hA hS (fun r fL1 H1 locs1 hp hP hS => ?_)
  obtain ⟨hp1, hp2⟩ := hp
  have hP : va_P G vwCl (WL k oL fL1 h a c C n0 M ds n1 d ++ ((oD, .inl (k 4, 1, .inr (.inr (.inr (.inl fD))))) :: W3 k a3 C n0 R n1 d th)) H1 := hP
  refine lv_istore (lv' := [(6, .int r), (0, .ref b), (1, .ref h), (2, .ref (a3 0)), (3, .ref oL), (4, .ref oD), (5, .int (nI i))]) hx hb dL_law_1547 hl (by decide) rfl (fun ls hl => ?_)
  have hl := lv_sub (l' := [(0, .ref b), (1, .ref h), (2, .ref (a3 0)), (3, .ref oL), (4, .ref oD), (5, .int (nI i)), (6, .int r)]) hl [1, 2, 3, 4, 5, 6, 0] rfl
  refine lv_aload_n hx hb dL_law_1549 rfl (lv_at hl 2 rfl) ?_
  refine y_scr (j := 1) (n1 := 1) hx hb hX hbl hbA hS hl rfl rfl (by omega) (by omega) dL_law_1550 dL_law_1551 (fun st k9 => lv_iconst (v := nI 1) hx hb dL_law_1553 (by decide) k9) dL_law_1554 dL_law_1555 ?_
  refine lv_i2c (v := ((xs (i + 1)).toUInt32 % 65536).toInt32) hx hb dL_law_1556 rfl ?_
  have hP3 : va_P G vwCl (W3 k a3 C n0 R n1 d th ++ (WL k oL fL1 h a c C n0 M ds n1 d ++ [(oD, .inl (k 4, 1, .inr (.inr (.inr (.inl fD)))))])) H1 := hP.sub [22, 23, 24, 25, 26, 27, 28, 29, 30, 31, 32, 33, 34, 35, 36, 37, 0, 1, 2, 3, 4, 5, 6, 7, 8, 9, 10, 11, 12, 13, 14, 15, 16, 17, 18, 19, 20, 21] rfl
  have hD3 : va_D (fun q : Nat => s.heap.size ≤ q) (W3 k a3 C n0 R n1 d th ++ (WL k oL fL1 h a c C n0 M ds n1 d ++ [(oD, .inl (k 4, 1, .inr (.inr (.inr (.inl fD)))))])) := yD (hD.sub (ws' := W3 k a3 C n0 R n1 d th ++ (WL k oL fL h a c C n0 M ds n1 d ++ [(oD, .inl (k 4, 1, .inr (.inr (.inr (.inl fD)))))])) [22, 23, 24, 25, 26, 27, 28, 29, 30, 31, 32, 33, 34, 35, 36, 37, 0, 1, 2, 3, 4, 5, 6, 7, 8, 9, 10, 11, 12, 13, 14, 15, 16, 17, 18, 19, 20, 21] (by decide) rfl) rfl
  refine y_lcall (w1 := W3 k a3 C n0 R n1 d th) (w2 := (WL k oL fL1 h a c C n0 M ds n1 d ++ [(oD, .inl (k 4, 1, .inr (.inr (.inr (.inl fD)))))])) (va_runV (As := [.int (((xs (i + 1)).toUInt32 % 65536).toInt32)]) (rest := []) ⟨hx, hb, hml, hown, hts⟩ (c_X3_count l G k a3 C n0 R n1 d th H1.size (((xs (i + 1)).toUInt32 % 65536).toInt32) ((yD_l hD3).weaken (fun _ _ _ _ => trivial)) hn1) (cwV 1 hts gL_law_X3_count rfl rfl rfl (by decide +kernel) ⟨Nat.le_of_ble_eq_true rfl, Nat.le_of_ble_eq_true rfl⟩) ⟨yBs_blind, va_recv hK (yP_l hP3) (ci := 5) (q0 := 0) rfl rfl, fun U hU hW => ⟨rfl, by rw [hU], by rw [hU]; exact yP_l hP3, va_K.moved hW.alike hK⟩⟩ rfl rfl hl.1 rfl (lv_room (Nat.le_of_ble_eq_true rfl)) dL_law_1557 ⟨show cells + 1 + 0 ≤ 3132 by omega, show slots + 6 + 0 ≤ 120728 by omega⟩) hP3 hD3 hA hS (fun r2 u2 H2 locs2 hq hP hS => ?_)
  have hq9 : (o_count (((xs (i + 1)).toUInt32 % 65536).toInt32) R n1) = (o_count (((xs (i + 1)).toUInt32 % 65536).toInt32) M n1) := rel_count hY.2
  have ec : ((o_count (((xs (i + 1)).toUInt32 % 65536).toInt32) R n1)).1 = ((o_count (((xs (i + 1)).toUInt32 % 65536).toInt32) M n1)).1 := congrArg Prod.fst hq9
  have ea : ((o_count (((xs (i + 1)).toUInt32 % 65536).toInt32) R n1)).2 = ((o_count (((xs (i + 1)).toUInt32 % 65536).toInt32) M n1)).2 := congrArg (fun z => z.2) hq9
  have hP : va_P G vwCl (W3 k a3 C n0 R n1 d ((o_count (((xs (i + 1)).toUInt32 % 65536).toInt32) R n1).1) ++ (WL k oL fL1 h a c C n0 M ds n1 d ++ [(oD, .inl (k 4, 1, .inr (.inr (.inr (.inl fD)))))])) H2 := hP
  refine lv_istore (lv' := [(7, .int r2), (0, .ref b), (1, .ref h), (2, .ref (a3 0)), (3, .ref oL), (4, .ref oD), (5, .int (nI i)), (6, .int r)]) hx hb dL_law_1560 hl (by decide) rfl (fun ls hl => ?_)
  have hl := lv_sub (l' := [(0, .ref b), (1, .ref h), (2, .ref (a3 0)), (3, .ref oL), (4, .ref oD), (5, .int (nI i)), (6, .int r), (7, .int r2)]) hl [1, 2, 3, 4, 5, 6, 7, 0] rfl
  refine lv_aload_n hx hb dL_law_1562 rfl (lv_at hl 2 rfl) ?_
  refine y_roV (As := []) (rest := []) ⟨hx, hb, hml, hown, hts⟩ (c_X3_thrown l G k a3 C n0 R n1 d ((o_count (((xs (i + 1)).toUInt32 % 65536).toInt32) R n1).1)) (cwV 0 hts gL_law_X3_thrown rfl rfl rfl (by decide +kernel) ⟨Nat.le_of_ble_eq_true rfl, Nat.le_of_ble_eq_true rfl⟩) hK (yP_l hP) (va_recv hK (yP_l hP) (ci := 5) (q0 := 0) rfl rfl) rfl hl.1 rfl (Nat.le_of_ble_eq_true rfl) dL_law_1563 ⟨show cells + 1 + 0 ≤ 3132 by omega, show slots + 6 + 0 ≤ 120728 by omega⟩ (fun r3 hr3 => ?_)
  refine lv_iload hx hb dL_law_1566 (lv_at hl 6 rfl) ?_
  refine lv_icmp_eq (tgt := 1573) hx hb dL_law_1568 (by decide) (fun c1 => ?_) (fun c1 => absurd (hr3.trans (ec.trans hp1.symm)) c1)
  have hPf : va_P G vwCl (WA k oL fL1 oD fD h a c a3 C n0 M ds n1 d R ((o_count (((xs (i + 1)).toUInt32 % 65536).toInt32) R n1).1)) H2 := hP.sub [16, 17, 18, 19, 20, 21, 22, 23, 24, 25, 26, 27, 28, 29, 30, 31, 32, 33, 34, 35, 36, 37, 0, 1, 2, 3, 4, 5, 6, 7, 8, 9, 10, 11, 12, 13, 14, 15] rfl
  have hYf : yY C n0 M ds n1 d R := hY
  have fin : W p l e room_1 s m #[Value.ref b] below meth c_ H2 locs2 (cells + 1 + 0) (slots + 6 + 0) Q (F0 m 1590 ls []) := by
    refine lv_goto (tgt := 1724) hx hb dL_law_1590 (by decide) ?_
    refine W.widen (k := cells + 6) (n := slots + 36) (by omega) (by omega) ?_
    exact kk hPf hYf hS (lv_sub hl [0, 1, 2, 3, 4, 5] rfl)
  refine lv_iload hx hb dL_law_1573 (lv_at hl 6 rfl) ?_
  refine lv_if_ne (tgt := 1590) hx hb dL_law_1575 (by decide) (fun _ => fin) (fun c2 => ?_)
  have h0 := hp2 (by rw [← hp1]; exact c2)
  refine lv_aload_n hx hb dL_law_1578 rfl (lv_at hl 3 rfl) ?_
  refine lv_iconst (v := 0) hx hb dL_law_1579 (by decide) ?_
  refine va_lald hx hb hK hPf 0 3 rfl rfl (vp_in_nI (n := 0) (N := 1) (by decide) (by decide)) dL_law_1580 ?_
  refine lv_iload hx hb dL_law_1581 (lv_at hl 7 rfl) ?_
  refine lv_i2l (v := r2.toInt64) hx hb dL_law_1583 rfl ?_
  refine y_lcmp hx hb (by show fL1 0 = _; rw [h0, hq, ea]) dL_law_1584 ?_
  exact lv_if_eq (tgt := 1590) hx hb dL_law_1585 (by decide) (fun _ => fin) (fun c3 => absurd rfl c3)
