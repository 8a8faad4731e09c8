theorem share_nan {M : Nat → Nat → Int32} {n1 : Nat} (h : (o_share M n1).1 = 0) (hn1 : n1 ≤ 80) : FP.fIsNaN (o_share M n1).2 = false := by
  unfold o_share at h ⊢
  by_cases h1 : n1 = 0
  · rw [if_pos h1] at h; exact absurd h (by decide)
  · rw [if_neg h1]
    exact y_fnan (fun h2 => h1 (nI_inj (b := 0) (by omega) (by omega) h2))
theorem mean_nan {C : Nat → Nat → Int32} {n0 : Nat} (h : (o_mean C n0).1 = 0) (hn : n0 ≤ 8) : FP.dIsNaN (o_mean C n0).2 = false := by
  unfold o_mean at h ⊢
  by_cases h1 : cnt (fun z => decide (0 < C 0 z)) n0 0 0 = 0
  · rw [if_pos h1] at h; exact absurd h (by decide)
  · rw [if_neg h1]
    have := cnt_le (fun z => decide (0 < C 0 z)) n0 0 0
    exact y_dnan (fun h2 => h1 (nI_inj (b := 0) (by omega) (by omega) h2))
section
variable {p : Program} {l : Launch} {e : Env} {R : Room} {s : State} {m : MethodId} {args : Array Value} {below : List Frame} {meth : Method} {c : Code} {H : Heap} {locs : List Loc} {cells slots : Nat} {Q : State → Prop} {pc : Nat} {ls : Array Slot} {rest : List Value} {cc : ByteArray}
theorem y_dcmp (hexec : p.tables.exec = Jvm.exec) (hb : c.code = cc) {x y : UInt64} (hxy : x = y) (hn : FP.dIsNaN y = false) (hdg : decode cc pc = .ok (.dcmp .l, 1))
    (k : W p l e R s m args below meth c H locs cells slots Q (F0 m (pc + 1) ls (.int 0 :: rest))) : W p l e R s m args below meth c H locs cells slots Q (F0 m pc ls (.double y :: .double x :: rest)) := by
  subst hxy
  refine lv_dcmp hexec hb hdg ?_
  have h1 : FP.dcmp x x = some .eq := FP.Core.dcmp_refl hn
  rw [h1]
  exact k
end
set_option maxHeartbeats 4000000 in
set_option maxRecDepth 100000 in
theorem law_day {p : Program} {l : Launch} {e : Env} {s : State} {m : MethodId} {below : List Frame} {meth : Method} {c_ : Code} {b L : Nat} {xs : Nat → Int32} {G : va_G} {k : Nat → ClassId} {oL oD h : Nat} {a c a3 : Nat → Nat} (F : LF p l s m meth c_ b L xs G k) {i : Nat} {cells slots : Nat} (hc : cells + 6 ≤ 3132 ∧ slots + 36 ≤ 120728) {Q : State → Prop} {fL : Nat → Int64} {fD : Nat → UInt64} {C : Nat → Nat → Int32} {n0 : Nat} {M : Nat → Nat → Int32} {ds n1 d : Nat} {R : Nat → Nat → Int32} {th : Int32} {H : Heap} {locs : List Loc} (hP : va_P G vwCl (WA k oL fL oD fD h a c a3 C n0 M ds n1 d R th) H) (hD : va_D (fun q : Nat => s.heap.size ≤ q) (WA k oL fL oD fD h a c a3 C n0 M ds n1 d R th)) (hY : yY C n0 M ds n1 d R) (hS : va_S (fun q : Nat => s.heap.size ≤ q) s.heap H locs) {ls : Array Slot} (hl : lv_has ls 9 [(0, .ref b), (1, .ref h), (2, .ref (a3 0)), (3, .ref oL), (4, .ref oD), (5, .int (nI i))]) (kk : LK p l e s m below meth c_ b G k oL oD h a c a3 i cells slots Q) : W p l e room_1 s m #[Value.ref b] below meth c_ H locs cells slots Q (F0 m 1522 ls []) := by
  obtain ⟨hx, hb, hr, hml, hown, hts, hX, hbl, hL, hK, hE, hNC, hl9⟩ := F
  have hA : ∀ q : Nat, s.heap.size ≤ q → (fun q : Nat => s.heap.size ≤ q) q := fun _ h => h
  have hn := hY.1.1
  have hn1 := hY.1.2.1
  have hE1 : yEV0 s H := yEV0_kept hE ⟨hS.1, hS.2.1, fun q hq => nomatch hq⟩ (fun q h1 h2 => absurd h1 (Nat.not_lt.mpr h2))
  refine lv_aload_n hx hb dL_law_1522 rfl (lv_at hl 1 rfl) ?_
  have hP2 : va_P G vwCl (W2 k h a c C n0 M ds n1 d) H := yP_tl (yP_l hP)
  refine y_roV (As := []) (rest := []) ⟨hx, hb, hml, hown, hts⟩ (c_X2_day l G k h a c C n0 M ds n1 d) (cwV 0 hts gL_law_X2_day rfl rfl rfl (by decide +kernel) ⟨Nat.le_of_ble_eq_true rfl, Nat.le_of_ble_eq_true rfl⟩) hK hP2 (va_recv hK hP2 (ci := 4) (q0 := 0) rfl rfl) rfl hl.1 rfl (Nat.le_of_ble_eq_true rfl) dL_law_1523 ⟨show cells ≤ 3132 by omega, show slots ≤ 120728 by omega⟩ (fun r hr9 => ?_)
  refine lv_aload_n hx hb dL_law_1526 rfl (lv_at hl 2 rfl) ?_
  have hP3 : va_P G vwCl (W3 k a3 C n0 R n1 d th ++ (WL k oL fL h a c C n0 M ds n1 d ++ [(oD, .inl (k 4, 1, .inr (.inr (.inr (.inl fD)))))])) H := hP.sub [22, 23, 24, 25, 26, 27, 28, 29, 30, 31, 32, 33, 34, 35, 36, 37, 0, 1, 2, 3, 4, 5, 6, 7, 8, 9, 10, 11, 12, 13, 14, 15, 16, 17, 18, 19, 20, 21] rfl
  have hD3 : va_D (fun q : Nat => s.heap.size ≤ q) (W3 k a3 C n0 R n1 d th ++ (WL k oL fL h a c C n0 M ds n1 d ++ [(oD, .inl (k 4, 1, .inr (.inr (.inr (.inl fD)))))])) := hD.sub [22, 23, 24, 25, 26, 27, 28, 29, 30, 31, 32, 33, 34, 35, 36, 37, 0, 1, 2, 3, 4, 5, 6, 7, 8, 9, 10, 11, 12, 13, 14, 15, 16, 17, 18, 19, 20, 21] (by decide) rfl
  refine y_lcall (w1 := W3 k a3 C n0 R n1 d th) (w2 := (WL k oL fL h a c C n0 M ds n1 d ++ [(oD, .inl (k 4, 1, .inr (.inr (.inr (.inl fD)))))])) (va_runV (As := []) (rest := [.int r]) ⟨hx, hb, hml, hown, hts⟩ (c_X3_day l G k a3 C n0 R n1 d th H.size ((yD_l hD3).weaken (fun _ _ _ _ => trivial))) (cwV 0 hts gL_law_X3_day rfl rfl rfl (by decide +kernel) ⟨Nat.le_of_ble_eq_true rfl, Nat.le_of_ble_eq_true rfl⟩) ⟨yBs_blind, va_recv hK (yP_l hP3) (ci := 5) (q0 := 0) rfl rfl, fun U hU hW => ⟨rfl, by rw [hU], by rw [hU]; exact yP_l hP3, va_K.moved hW.alike hK⟩⟩ rfl rfl hl.1 rfl (lv_room (Nat.le_of_ble_eq_true rfl)) dL_law_1527 ⟨show cells + 0 ≤ 3132 by omega, show slots + 0 ≤ 120728 by omega⟩) hP3 hD3 hA hS (fun r2 u2 H2 locs2 hq hP hS => ?_)
  have hPf : va_P G vwCl (WA k oL fL oD fD h a c a3 C n0 M ds n1 d R 0) H2 := hP.sub [16, 17, 18, 19, 20, 21, 22, 23, 24, 25, 26, 27, 28, 29, 30, 31, 32, 33, 34, 35, 36, 37, 0, 1, 2, 3, 4, 5, 6, 7, 8, 9, 10, 11, 12, 13, 14, 15] rfl
  refine lv_icmp_eq (tgt := 1724) hx hb dL_law_1530 (by decide) (fun c1 => ?_) (fun c1 => absurd (hr9.trans hq.symm) c1)
  refine W.widen (k := cells + 6) (n := slots + 36) (by omega) (by omega) ?_
  exact kk hPf hY hS hl
set_option maxHeartbeats 4000000 in
set_option maxRecDepth 100000 in
theorem law_doneShare {p : Program} {l : Launch} {e : Env} {s : State} {m : MethodId} {below : List Frame} {meth : Method} {c_ : Code} {b L : Nat} {xs : Nat → Int32} {G : va_G} {k : Nat → ClassId} {oL oD h : Nat} {a c a3 : Nat → Nat} (F : LF p l s m meth c_ b L xs G k) {i : Nat} {cells slots : Nat} (hc : cells + 6 ≤ 3132 ∧ slots + 36 ≤ 120728) {Q : State → Prop} {fL : Nat → Int64} {fD : Nat → UInt64} {C : Nat → Nat → Int32} {n0 : Nat} {M : Nat → Nat → Int32} {ds n1 d : Nat} {R : Nat → Nat → Int32} {th : Int32} {H : Heap} {locs : List Loc} (hP : va_P G vwCl (WA k oL fL oD fD h a c a3 C n0 M ds n1 d R th) H) (hD : va_D (fun q : Nat => s.heap.size ≤ q) (WA k oL fL oD fD h a c a3 C n0 M ds n1 d R th)) (hY : yY C n0 M ds n1 d R) (hS : va_S (fun q : Nat => s.heap.size ≤ q) s.heap H locs) {ls : Array Slot} (hl : lv_has ls 9 [(0, .ref b), (1, .ref h), (2, .ref (a3 0)), (3, .ref oL), (4, .ref oD), (5, .int (nI i))]) (kk : LK p l e s m below meth c_ b G k oL oD h a c a3 i cells slots Q) : W p l e room_1 s m #[Value.ref b] below meth c_ H locs cells slots Q (F0 m 1593 ls []) := by
  obtain ⟨hx, hb, hr, hml, hown, hts, hX, hbl, hL, hK, hE, hNC, hl9⟩ := F
  have hA : ∀ q : Nat, s.heap.size ≤ q → (fun q : Nat => s.heap.size ≤ q) q := fun _ h => h
  have hn := hY.1.1
  have hn1 := hY.1.2.1
  have hE1 : yEV0 s H := yEV0_kept hE ⟨hS.1, hS.2.1, fun q hq => nomatch hq⟩ (fun q h1 h2 => absurd h1 (Nat.not_lt.mpr h2))
  refine lv_aload_n hx hb dL_law_1593 rfl (lv_at hl 1 rfl) ?_
  refine lv_aload hx hb dL_law_1594 (lv_at hl 4 rfl) ?_
  have hPD : va_P G vwCl (WD k oD fD h a c C n0 M ds n1 d ++ ((oL, .inl (k 3, 1, .inr (.inl fL))) :: W3 k a3 C n0 R n1 d th)) H := hP.sub [21, 1, 2, 3, 4, 5, 6, 7, 8, 9, 10, 11, 12, 13, 14, 15, 16, 17, 18, 19, 20, 0, 22, 23, 24, 25, 26, 27, 28, 29, 30, 31, 32, 33, 34, 35, 36, 37] rfl
  have hDD : va_D (fun q : Nat => s.heap.size ≤ q) (WD k oD fD h a c C n0 M ds n1 d ++ ((oL, .inl (k 3, 1, .inr (.inl fL))) :: W3 k a3 C n0 R n1 d th)) := hD.sub [21, 1, 2, 3, 4, 5, 6, 7, 8, 9, 10, 11, 12, 13, 14, 15, 16, 17, 18, 19, 20, 0, 22, 23, 24, 25, 26, 27, 28, 29, 30, 31, 32, 33, 34, 35, 36, 37] (by decide) rfl
  refine y_lcall (w2 := ((oL, .inl (k 3, 1, .inr (.inl fL))) :: W3 k a3 C n0 R n1 d th)) (vx_runSW (As := [.ref h, .ref oD]) (rest := []) ⟨hx, hb, hml, hown, hts⟩ (c_L_doneShare l hl9 G k h a c C n0 M ds n1 d oD fD H.size ((yD_l hDD).weaken (fun _ _ _ _ => trivial)) hn1) (vx_cwSW 2 hts gL_law_L_doneShare rfl rfl rfl (by decide +kernel) ⟨Nat.le_of_ble_eq_true rfl, Nat.le_of_ble_eq_true rfl⟩) ⟨yL_blind, fun U hU hW => ⟨rfl, by rw [hU], by rw [hU]; exact yP_l hPD, va_K.moved hW.alike hK, yEV_at hE1 hU hW, fun z hz => va_Nc.moved hW.alike (hNC z hz)⟩⟩ rfl rfl hl.1 rfl (lv_room (Nat.le_of_ble_eq_true rfl)) dL_law_1596 ⟨show cells + 1 ≤ 3132 by omega, show slots + 6 ≤ 120728 by omega⟩) hPD hDD hA hS (fun r fD1 H1 locs1 hp hP hS => ?_)
  obtain ⟨hp1, hp2⟩ := hp
  have hP : va_P G vwCl (WD k oD fD1 h a c C n0 M ds n1 d ++ ((oL, .inl (k 3, 1, .inr (.inl fL))) :: W3 k a3 C n0 R n1 d th)) H1 := hP
  refine lv_istore (lv' := [(6, .int r), (0, .ref b), (1, .ref h), (2, .ref (a3 0)), (3, .ref oL), (4, .ref oD), (5, .int (nI i))]) hx hb dL_law_1599 hl (by decide) rfl (fun ls hl => ?_)
  have hl := lv_sub (l' := [(0, .ref b), (1, .ref h), (2, .ref (a3 0)), (3, .ref oL), (4, .ref oD), (5, .int (nI i)), (6, .int r)]) hl [1, 2, 3, 4, 5, 6, 0] rfl
  refine lv_aload_n hx hb dL_law_1601 rfl (lv_at hl 2 rfl) ?_
  have hP3 : va_P G vwCl (W3 k a3 C n0 R n1 d th ++ (WD k oD fD1 h a c C n0 M ds n1 d ++ [(oL, .inl (k 3, 1, .inr (.inl fL)))])) H1 := hP.sub [22, 23, 24, 25, 26, 27, 28, 29, 30, 31, 32, 33, 34, 35, 36, 37, 0, 1, 2, 3, 4, 5, 6, 7, 8, 9, 10, 11, 12, 13, 14, 15, 16, 17, 18, 19, 20, 21] rfl
  have hD3 : va_D (fun q : Nat => s.heap.size ≤ q) (W3 k a3 C n0 R n1 d th ++ (WD k oD fD1 h a c C n0 M ds n1 d ++ [(oL, .inl (k 3, 1, .inr (.inl fL)))])) := yD (hDD.sub (ws' := W3 k a3 C n0 R n1 d th ++ (WD k oD fD h a c C n0 M ds n1 d ++ [(oL, .inl (k 3, 1, .inr (.inl fL)))])) [22, 23, 24, 25, 26, 27, 28, 29, 30, 31, 32, 33, 34, 35, 36, 37, 0, 1, 2, 3, 4, 5, 6, 7, 8, 9, 10, 11, 12, 13, 14, 15, 16, 17, 18, 19, 20, 21] (by decide) rfl) rfl
  refine y_lcallf (w1 := W3 k a3 C n0 R n1 d th) (w2 := (WD k oD fD1 h a c C n0 M ds n1 d ++ [(oL, .inl (k 3, 1, .inr (.inl fL)))])) (va_runV (As := []) (rest := []) ⟨hx, hb, hml, hown, hts⟩ (c_X3_doneShare l G k a3 C n0 R n1 d th H1.size ((yD_l hD3).weaken (fun _ _ _ _ => trivial)) hn1) (cwV 0 hts gL_law_X3_doneShare rfl rfl rfl (by decide +kernel) ⟨Nat.le_of_ble_eq_true rfl, Nat.le_of_ble_eq_true rfl⟩) ⟨yBs_blind, va_recv hK (yP_l hP3) (ci := 5) (q0 := 0) rfl rfl, fun U hU hW => ⟨rfl, by rw [hU], by rw [hU]; exact yP_l hP3, va_K.moved hW.alike hK⟩⟩ rfl rfl hl.1 rfl (lv_room (Nat.le_of_ble_eq_true rfl)) dL_law_1602 ⟨show cells + 1 + 0 ≤ 3132 by omega, show slots + 6 + 0 ≤ 120728 by omega⟩) hP3 hD3 hA hS (fun r2 u2 H2 locs2 hq hP hS => ?_)
  have hq9 : o_share R n1 = o_share M n1 := rel_share hY.2
  have hP : va_P G vwCl (W3 k a3 C n0 R n1 d (o_share R n1).1 ++ (WD k oD fD1 h a c C n0 M ds n1 d ++ [(oL, .inl (k 3, 1, .inr (.inl fL)))])) H2 := hP
  refine lv_fstore (lv' := [(7, .float r2), (0, .ref b), (1, .ref h), (2, .ref (a3 0)), (3, .ref oL), (4, .ref oD), (5, .int (nI i)), (6, .int r)]) hx hb dL_law_1605 hl (by decide) rfl (fun ls hl => ?_)
  have hl := lv_sub (l' := [(0, .ref b), (1, .ref h), (2, .ref (a3 0)), (3, .ref oL), (4, .ref oD), (5, .int (nI i)), (6, .int r), (7, .float r2)]) hl [1, 2, 3, 4, 5, 6, 7, 0] rfl
  refine lv_aload_n hx hb dL_law_1607 rfl (lv_at hl 2 rfl) ?_
  refine y_roV (As := []) (rest := []) ⟨hx, hb, hml, hown, hts⟩ (c_X3_thrown l G k a3 C n0 R n1 d (o_share R n1).1) (cwV 0 hts gL_law_X3_thrown rfl rfl rfl (by decide +kernel) ⟨Nat.le_of_ble_eq_true rfl, Nat.le_of_ble_eq_true rfl⟩) hK (yP_l hP) (va_recv hK (yP_l hP) (ci := 5) (q0 := 0) rfl rfl) rfl hl.1 rfl (Nat.le_of_ble_eq_true rfl) dL_law_1608 ⟨show cells + 1 + 0 ≤ 3132 by omega, show slots + 6 + 0 ≤ 120728 by omega⟩ (fun r3 hr3 => ?_)
  refine lv_iload hx hb dL_law_1611 (lv_at hl 6 rfl) ?_
  refine lv_icmp_eq (tgt := 1618) hx hb dL_law_1613 (by decide) (fun c1 => ?_) (fun c1 => absurd (hr3.trans ((congrArg Prod.fst hq9).trans hp1.symm)) c1)
  have hPf : va_P G vwCl (WA k oL fL oD fD1 h a c a3 C n0 M ds n1 d R (o_share R n1).1) H2 := hP.sub [37, 17, 18, 19, 20, 21, 22, 23, 24, 25, 26, 27, 28, 29, 30, 31, 32, 33, 34, 35, 36, 16, 0, 1, 2, 3, 4, 5, 6, 7, 8, 9, 10, 11, 12, 13, 14, 15] rfl
  have fin : W p l e room_1 s m #[Value.ref b] below meth c_ H2 locs2 (cells + 1 + 0) (slots + 6 + 0) Q (F0 m 1656 ls []) := by
    refine lv_goto (tgt := 1724) hx hb dL_law_1656 (by decide) ?_
    refine W.widen (k := cells + 6) (n := slots + 36) (by omega) (by omega) ?_
    exact kk hPf hY hS (lv_sub hl [0, 1, 2, 3, 4, 5] rfl)
  refine lv_iload hx hb dL_law_1618 (lv_at hl 6 rfl) ?_
  refine lv_if_ne (tgt := 1656) hx hb dL_law_1620 (by decide) (fun _ => fin) (fun c2 => ?_)
  have h0 := hp2 (by rw [← hp1]; exact c2)
  have hnn : FP.fIsNaN r2 = false := by rw [hq, hq9]; exact share_nan (by rw [← hp1]; exact c2) hn1
  have hnd : FP.dIsNaN (FP.f2d r2) = false := by rw [FP.f2d_nan]; exact hnn
  have hxy : fD1 0 = FP.f2d r2 := by rw [h0, hq, hq9]
  refine lv_aload hx hb dL_law_1623 (lv_at hl 4 rfl) ?_
  refine lv_iconst (v := 0) hx hb dL_law_1625 (by decide) ?_
  refine va_dald hx hb hK hPf 21 4 rfl rfl (vp_in_nI (n := 0) (N := 1) (by decide) (by decide)) dL_law_1626 ?_
  refine lv_fload hx hb dL_law_1627 (lv_at hl 7 rfl) ?_
  refine lv_f2d hx hb dL_law_1629 (y_n64 hnd) ?_
  refine y_dcmp hx hb (by show fD1 0 = _; exact hxy) hnd dL_law_1630 ?_
  exact lv_if_eq (tgt := 1656) hx hb dL_law_1631 (by decide) (fun _ => fin) (fun c3 => absurd rfl c3)
set_option maxHeartbeats 4000000 in
set_option maxRecDepth 100000 in
theorem law_meanAmount {p : Program} {l : Launch} {e : Env} {s : State} {m : MethodId} {below : List Frame} {meth : Method} {c_ : Code} {b L : Nat} {xs : Nat → Int32} {G : va_G} {k : Nat → ClassId} {oL oD h : Nat} {a c a3 : Nat → Nat} (F : LF p l s m meth c_ b L xs G k) {i : Nat} {cells slots : Nat} (hc : cells + 6 ≤ 3132 ∧ slots + 36 ≤ 120728) {Q : State → Prop} {fL : Nat → Int64} {fD : Nat → UInt64} {C : Nat → Nat → Int32} {n0 : Nat} {M : Nat → Nat → Int32} {ds n1 d : Nat} {R : Nat → Nat → Int32} {th : Int32} {H : Heap} {locs : List Loc} (hP : va_P G vwCl (WA k oL fL oD fD h a c a3 C n0 M ds n1 d R th) H) (hD : va_D (fun q : Nat => s.heap.size ≤ q) (WA k oL fL oD fD h a c a3 C n0 M ds n1 d R th)) (hY : yY C n0 M ds n1 d R) (hS : va_S (fun q : Nat => s.heap.size ≤ q) s.heap H locs) {ls : Array Slot} (hl : lv_has ls 9 [(0, .ref b), (1, .ref h), (2, .ref (a3 0)), (3, .ref oL), (4, .ref oD), (5, .int (nI i))]) (kk : LK p l e s m below meth c_ b G k oL oD h a c a3 i cells slots Q) : W p l e room_1 s m #[Value.ref b] below meth c_ H locs cells slots Q (F0 m 1659 ls []) := by
  obtain ⟨hx, hb, hr, hml, hown, hts, hX, hbl, hL, hK, hE, hNC, hl9⟩ := F
  have hA : ∀ q : Nat, s.heap.size ≤ q → (fun q : Nat => s.heap.size ≤ q) q := fun _ h => h
  have hn := hY.1.1
  have hn1 := hY.1.2.1
  have hE1 : yEV0 s H := yEV0_kept hE ⟨hS.1, hS.2.1, fun q hq => nomatch hq⟩ (fun q h1 h2 => absurd h1 (Nat.not_lt.mpr h2))
  refine lv_aload_n hx hb dL_law_1659 rfl (lv_at hl 1 rfl) ?_
  refine lv_aload hx hb dL_law_1660 (lv_at hl 4 rfl) ?_
  have hPD : va_P G vwCl (WD k oD fD h a c C n0 M ds n1 d ++ ((oL, .inl (k 3, 1, .inr (.inl fL))) :: W3 k a3 C n0 R n1 d th)) H := hP.sub [21, 1, 2, 3, 4, 5, 6, 7, 8, 9, 10, 11, 12, 13, 14, 15, 16, 17, 18, 19, 20, 0, 22, 23, 24, 25, 26, 27, 28, 29, 30, 31, 32, 33, 34, 35, 36, 37] rfl
  have hDD : va_D (fun q : Nat => s.heap.size ≤ q) (WD k oD fD h a c C n0 M ds n1 d ++ ((oL, .inl (k 3, 1, .inr (.inl fL))) :: W3 k a3 C n0 R n1 d th)) := hD.sub [21, 1, 2, 3, 4, 5, 6, 7, 8, 9, 10, 11, 12, 13, 14, 15, 16, 17, 18, 19, 20, 0, 22, 23, 24, 25, 26, 27, 28, 29, 30, 31, 32, 33, 34, 35, 36, 37] (by decide) rfl
  refine y_lcall (w2 := ((oL, .inl (k 3, 1, .inr (.inl fL))) :: W3 k a3 C n0 R n1 d th)) (vx_runSW (As := [.ref h, .ref oD]) (rest := []) ⟨hx, hb, hml, hown, hts⟩ (c_L_meanAmount l hl9 G k h a c C n0 M ds n1 d oD fD H.size ((yD_l hDD).weaken (fun _ _ _ _ => trivial)) hn) (vx_cwSW 2 hts gL_law_L_meanAmount rfl rfl rfl (by decide +kernel) ⟨Nat.le_of_ble_eq_true rfl, Nat.le_of_ble_eq_true rfl⟩) ⟨yL_blind, fun U hU hW => ⟨rfl, by rw [hU], by rw [hU]; exact yP_l hPD, va_K.moved hW.alike hK, yEV_at hE1 hU hW, fun z hz => va_Nc.moved hW.alike (hNC z hz)⟩⟩ rfl rfl hl.1 rfl (lv_room (Nat.le_of_ble_eq_true rfl)) dL_law_1662 ⟨show cells + 1 ≤ 3132 by omega, show slots + 6 ≤ 120728 by omega⟩) hPD hDD hA hS (fun r fD1 H1 locs1 hp hP hS => ?_)
  obtain ⟨hp1, hp2⟩ := hp
  have hP : va_P G vwCl (WD k oD fD1 h a c C n0 M ds n1 d ++ ((oL, .inl (k 3, 1, .inr (.inl fL))) :: W3 k a3 C n0 R n1 d th)) H1 := hP
  refine lv_istore (lv' := [(6, .int r), (0, .ref b), (1, .ref h), (2, .ref (a3 0)), (3, .ref oL), (4, .ref oD), (5, .int (nI i))]) hx hb dL_law_1665 hl (by decide) rfl (fun ls hl => ?_)
  have hl := lv_sub (l' := [(0, .ref b), (1, .ref h), (2, .ref (a3 0)), (3, .ref oL), (4, .ref oD), (5, .int (nI i)), (6, .int r)]) hl [1, 2, 3, 4, 5, 6, 0] rfl
  refine lv_aload_n hx hb dL_law_1667 rfl (lv_at hl 2 rfl) ?_
  have hP3 : va_P G vwCl (W3 k a3 C n0 R n1 d th ++ (WD k oD fD1 h a c C n0 M ds n1 d ++ [(oL, .inl (k 3, 1, .inr (.inl fL)))])) H1 := hP.sub [22, 23, 24, 25, 26, 27, 28, 29, 30, 31, 32, 33, 34, 35, 36, 37, 0, 1, 2, 3, 4, 5, 6, 7, 8, 9, 10, 11, 12, 13, 14, 15, 16, 17, 18, 19, 20, 21] rfl
  have hD3 : va_D (fun q : Nat => s.heap.size ≤ q) (W3 k a3 C n0 R n1 d th ++ (WD k oD fD1 h a c C n0 M ds n1 d ++ [(oL, .inl (k 3, 1, .inr (.inl fL)))])) := yD (hDD.sub (ws' := W3 k a3 C n0 R n1 d th ++ (WD k oD fD h a c C n0 M ds n1 d ++ [(oL, .inl (k 3, 1, .inr (.inl fL)))])) [22, 23, 24, 25, 26, 27, 28, 29, 30, 31, 32, 33, 34, 35, 36, 37, 0, 1, 2, 3, 4, 5, 6, 7, 8, 9, 10, 11, 12, 13, 14, 15, 16, 17, 18, 19, 20, 21] (by decide) rfl) rfl
  refine y_lcalld (w1 := W3 k a3 C n0 R n1 d th) (w2 := (WD k oD fD1 h a c C n0 M ds n1 d ++ [(oL, .inl (k 3, 1, .inr (.inl fL)))])) (va_runV (As := []) (rest := []) ⟨hx, hb, hml, hown, hts⟩ (c_X3_meanAmount l G k a3 C n0 R n1 d th H1.size ((yD_l hD3).weaken (fun _ _ _ _ => trivial)) hn) (cwV 0 hts gL_law_X3_meanAmount rfl rfl rfl (by decide +kernel) ⟨Nat.le_of_ble_eq_true rfl, Nat.le_of_ble_eq_true rfl⟩) ⟨yBs_blind, va_recv hK (yP_l hP3) (ci := 5) (q0 := 0) rfl rfl, fun U hU hW => ⟨rfl, by rw [hU], by rw [hU]; exact yP_l hP3, va_K.moved hW.alike hK⟩⟩ rfl rfl hl.1 rfl (lv_room (Nat.le_of_ble_eq_true rfl)) dL_law_1668 ⟨show cells + 1 + 0 ≤ 3132 by omega, show slots + 6 + 0 ≤ 120728 by omega⟩) hP3 hD3 hA hS (fun r2 u2 H2 locs2 hq hP hS => ?_)
  have hq9 : o_mean C n0 = o_mean C n0 := rfl
  have hP : va_P G vwCl (W3 k a3 C n0 R n1 d (o_mean C n0).1 ++ (WD k oD fD1 h a c C n0 M ds n1 d ++ [(oL, .inl (k 3, 1, .inr (.inl fL)))])) H2 := hP
  refine lv_dstore (lv' := [(7, .double r2), (0, .ref b), (1, .ref h), (2, .ref (a3 0)), (3, .ref oL), (4, .ref oD), (5, .int (nI i)), (6, .int r)]) hx hb dL_law_1671 hl (by decide) rfl (fun ls hl => ?_)
  have hl := lv_sub (l' := [(0, .ref b), (1, .ref h), (2, .ref (a3 0)), (3, .ref oL), (4, .ref oD), (5, .int (nI i)), (6, .int r), (7, .double r2)]) hl [1, 2, 3, 4, 5, 6, 7, 0] rfl
  refine lv_aload_n hx hb dL_law_1673 rfl (lv_at hl 2 rfl) ?_
  refine y_roV (As := []) (rest := []) ⟨hx, hb, hml, hown, hts⟩ (c_X3_thrown l G k a3 C n0 R n1 d (o_mean C n0).1) (cwV 0 hts gL_law_X3_thrown rfl rfl rfl (by decide +kernel) ⟨Nat.le_of_ble_eq_true rfl, Nat.le_of_ble_eq_true rfl⟩) hK (yP_l hP) (va_recv hK (yP_l hP) (ci := 5) (q0 := 0) rfl rfl) rfl hl.1 rfl (Nat.le_of_ble_eq_true rfl) dL_law_1674 ⟨show cells + 1 + 0 ≤ 3132 by omega, show slots + 6 + 0 ≤ 120728 by omega⟩ (fun r3 hr3 => ?_)
  refine lv_iload hx hb dL_law_1677 (lv_at hl 6 rfl) ?_
  refine lv_icmp_eq (tgt := 1684) hx hb dL_law_1679 (by decide) (fun c1 => ?_) (fun c1 => absurd (hr3.trans ((congrArg Prod.fst hq9).trans hp1.symm)) c1)
  have hPf : va_P G vwCl (WA k oL fL oD fD1 h a c a3 C n0 M ds n1 d R (o_mean C n0).1) H2 := hP.sub [37, 17, 18, 19, 20, 21, 22, 23, 24, 25, 26, 27, 28, 29, 30, 31, 32, 33, 34, 35, 36, 16, 0, 1, 2, 3, 4, 5, 6, 7, 8, 9, 10, 11, 12, 13, 14, 15] rfl
  have fin : W p l e room_1 s m #[Value.ref b] below meth c_ H2 locs2 (cells + 1 + 0) (slots + 6 + 0) Q (F0 m 1721 ls []) := by
    refine lv_goto (tgt := 1724) hx hb dL_law_1721 (by decide) ?_
    refine W.widen (k := cells + 6) (n := slots + 36) (by omega) (by omega) ?_
    exact kk hPf hY hS (lv_sub hl [0, 1, 2, 3, 4, 5] rfl)
  refine lv_iload hx hb dL_law_1684 (lv_at hl 6 rfl) ?_
  refine lv_if_ne (tgt := 1721) hx hb dL_law_1686 (by decide) (fun _ => fin) (fun c2 => ?_)
  have h0 := hp2 (by rw [← hp1]; exact c2)
  have hnd : FP.dIsNaN r2 = false := by rw [hq, hq9]; exact mean_nan (by rw [← hp1]; exact c2) hn
  have hxy : fD1 0 = r2 := by rw [h0, hq, hq9]
  refine lv_aload hx hb dL_law_1689 (lv_at hl 4 rfl) ?_
  refine lv_iconst (v := 0) hx hb dL_law_1691 (by decide) ?_
  refine va_dald hx hb hK hPf 21 4 rfl rfl (vp_in_nI (n := 0) (N := 1) (by decide) (by decide)) dL_law_1692 ?_
  refine lv_dload hx hb dL_law_1693 (lv_at hl 7 rfl) ?_
  refine y_dcmp hx hb (by show fD1 0 = _; exact hxy) hnd dL_law_1695 ?_
  exact lv_if_eq (tgt := 1721) hx hb dL_law_1696 (by decide) (fun _ => fin) (fun c3 => absurd rfl c3)
