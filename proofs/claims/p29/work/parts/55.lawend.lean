set_option maxHeartbeats 8000000 in
set_option maxRecDepth 100000 in
theorem law_tail {p : Program} {l : Launch} {e : Env} {s : State} {m : MethodId} {below : List Frame} {meth : Method} {c_ : Code} {b L : Nat} {xs : Nat → Int32} {G : va_G} {k : Nat → ClassId} {h : Nat} {a c : Nat → Nat} (F : LF p l s m meth c_ b L xs G k h a c) {z9 j A B : Nat} {isW : Int32} {bf : Int64} (hj : j < 58) (kl : KL p l e s m below meth c_ b G k h a c z9 j A B) : KT p l e s m below meth c_ b G k h a c z9 isW bf j (A + 4200) (B + 25200) := by
  intro σ its H locs cells slots ls hJ hd hsum hP hS hb1 hb2 hl
  obtain ⟨hx, hb, hr, hml, hown, hts, hX, hbl, hL, hK, hV, hl9, hlocks, hDA⟩ := F
  have hn0 : σ.2.1 ≤ 8 := J_n0 hJ
  have hn1 : σ.2.2.2.2.1 ≤ 80 := J_n1 hJ
  refine y_join (pc1 := 746) (ls1 := ls) (st1 := []) (fun (H : Heap) (locs : List Loc) (cells slots : Nat) => va_P G vwCl (WS k h a c σ) H ∧ yO s H locs ∧ cells + (A + 3600) ≤ 756716 ∧ slots + (B + 21600) ≤ 6824554) (fun H locs cells slots hP9 => ?_) (fun K746 => ?_)
  · obtain ⟨hP, hS, hb1, hb2⟩ := hP9
    refine lv_iload_n hx hb dL_law_746 rfl (lv_at hl 3 rfl) ?_
    refine lv_bipush (v := 7) hx hb dL_law_747 (by decide) ?_
    refine lv_irem hx hb dL_law_749 (by decide) ?_
    refine y_top (irem_eq_mod _ _) ?_
    refine lv_bipush (v := 6) hx hb dL_law_750 (by decide) ?_
    refine lv_icmp_ne (tgt := 764) hx hb dL_law_752 (by decide) (fun c752 => ?_) (fun c752 => ?_)
    · skip
      refine lv_iinc (v := (nI (j + 1))) (lv' := [(3, .int (nI (j + 1))), (0, .ref b), (1, .ref h), (2, .int (nI z9)), (9, .int isW), (10, .long bf), (12, .int its)]) hx hb dL_law_764 hl (k := 3) rfl (nI_1 j) (by decide) rfl (fun ls hl => ?_)
      refine lv_goto (tgt := 21) hx hb dL_law_767 (by decide) ?_
      have q1 : cells + A ≤ 756716 := by omega
      have q2 : slots + B ≤ 6824554 := by omega
      exact kl _ _ _ _ _ _ hJ hd hP hS q1 q2 (lv_sub hl [1, 2, 3, 0] rfl)
    · skip
      refine lv_aload_n hx hb dL_law_755 rfl (lv_at hl 1 rfl) ?_
      refine y_lro (va_runS (As := [.ref h]) (rest := []) ⟨hx, hb, hml, hown, hts⟩ (c_isSound l hl9 G k h a c σ H.size hJ) (va_cwS 1 hts gL_law_L_isSound rfl rfl rfl (by decide +kernel) ⟨Nat.le_of_ble_eq_true rfl, Nat.le_of_ble_eq_true rfl⟩) (yL_pre hS hV hP hK) rfl rfl hl.1 rfl (lv_room (Nat.le_of_ble_eq_true rfl)) dL_law_756 ⟨show cells + 3600 ≤ 756716 by omega, show slots + 21600 ≤ 6824554 by omega⟩) hS (fun r H1 locs1 hr9 hk9 hS1 => ?_)
      have hP := yKeep hP hk9
      have hS := hS1
      clear hk9 hS1
      subst hr9
      refine lv_if_ne (tgt := 764) hx hb dL_law_759 (by decide) (fun _ => ?_) (fun c9 => absurd c9 (by decide))
      refine lv_iinc (v := (nI (j + 1))) (lv' := [(3, .int (nI (j + 1))), (0, .ref b), (1, .ref h), (2, .int (nI z9)), (9, .int isW), (10, .long bf), (12, .int its)]) hx hb dL_law_764 hl (k := 3) rfl (nI_1 j) (by decide) rfl (fun ls hl => ?_)
      refine lv_goto (tgt := 21) hx hb dL_law_767 (by decide) ?_
      have q1 : cells + 3600 + A ≤ 756716 := by omega
      have q2 : slots + 21600 + B ≤ 6824554 := by omega
      exact kl _ _ _ _ _ _ hJ hd hP hS q1 q2 (lv_sub hl [1, 2, 3, 0] rfl)
  refine lv_iload hx hb dL_law_723 (lv_at hl 6 rfl) ?_
  refine lv_sipush (v := (-1000)) hx hb dL_law_725 (by decide) ?_
  refine lv_icmp_ge (tgt := 746) hx hb dL_law_728 (by decide) (fun c728 => ?_) (fun c728 => ?_)
  · skip
    exact K746 _ _ _ _ ⟨hP, hS, Nat.le_trans (by omega) hb1, Nat.le_trans (by omega) hb2⟩
  · skip
    refine lv_iload hx hb dL_law_731 (lv_at hl 4 rfl) ?_
    refine lv_if_eq (tgt := 746) hx hb dL_law_733 (by decide) (fun c733 => ?_) (fun c733 => ?_)
    · skip
      exact K746 _ _ _ _ ⟨hP, hS, Nat.le_trans (by omega) hb1, Nat.le_trans (by omega) hb2⟩
    · skip
      refine lv_aload_n hx hb dL_law_736 rfl (lv_at hl 1 rfl) ?_
      refine y_lroL (va_runS (As := [.ref h]) (rest := []) ⟨hx, hb, hml, hown, hts⟩ (c_sum l hl9 G k h a c σ H.size hJ) (va_cwS 1 hts gL_law_L_sum rfl rfl rfl (by decide +kernel) ⟨Nat.le_of_ble_eq_true rfl, Nat.le_of_ble_eq_true rfl⟩) (yL_pre hS hV hP hK) rfl rfl hl.1 rfl (lv_room (Nat.le_of_ble_eq_true rfl)) dL_law_737 ⟨show cells + 600 ≤ 756716 by omega, show slots + 3600 ≤ 6824554 by omega⟩) hS (fun r H1 locs1 hr9 hk9 hS1 => ?_)
      have hP := yKeep hP hk9
      have hS := hS1
      clear hk9 hS1
      subst hr9
      refine lv_lload hx hb dL_law_740 (lv_at hl 5 rfl) ?_
      refine y_lcmp hx hb (x := (f_sum σ)) (y := bf) (hsum (Int32.not_le.mp c728) c733) dL_law_742 ?_
      refine lv_if_ne (tgt := 762) hx hb dL_law_743 (by decide) (fun c9 => absurd c9 (by decide)) (fun _ => ?_)
      exact K746 _ _ _ _ ⟨hP, hS, Nat.le_trans (by omega) hb1, Nat.le_trans (by omega) hb2⟩

set_option maxHeartbeats 8000000 in
set_option maxRecDepth 100000 in
theorem law_end3 {p : Program} {l : Launch} {e : Env} {s : State} {m : MethodId} {below : List Frame} {meth : Method} {c_ : Code} {b L : Nat} {xs : Nat → Int32} {G : va_G} {k : Nat → ClassId} {h : Nat} {a c : Nat → Nat} (F : LF p l s m meth c_ b L xs G k h a c) {σ : SX} (hJ : yJs σ) {H : Heap} {locs : List Loc} {cells slots : Nat} {ls : Array Slot} (hP : va_P G vwCl (WS k h a c σ) H) (hS : yO s H locs) (hb1 : cells + 800 ≤ 756716) (hb2 : slots + 4800 ≤ 6824554) (hl : lv_has ls 16 [(1, .ref h), (3, .long (f_sum σ)), (5, .int (nI σ.2.1)), (6, .int (nI σ.2.2.2.2.1))]) : W p l e room_1 s m #[Value.ref b] below meth c_ H locs cells slots (lw_Z below #[Value.ref b] s) (F0 m 1200 ls []) := by
  have F9 := F
  obtain ⟨hx, hb, hr, hml, hown, hts, hX, hbl, hL, hK, hV, hl9, hlocks, hDA⟩ := F
  have hn0 : σ.2.1 ≤ 8 := J_n0 hJ
  have hn1 : σ.2.2.2.2.1 ≤ 80 := J_n1 hJ
  refine lv_iconst (v := 0) hx hb dL_law_1200 (by decide) ?_
  refine lv_istore (lv' := [(7, .int 0), (1, .ref h), (3, .long (f_sum σ)), (5, .int (nI σ.2.1)), (6, .int (nI σ.2.2.2.2.1))]) hx hb dL_law_1201 hl (by decide) rfl (fun ls hl => ?_)
  refine lv_iload hx hb dL_law_1203 (lv_at hl 0 rfl) ?_
  refine lv_bipush (v := 8) hx hb dL_law_1205 (by decide) ?_
  refine lv_icmp_ge (tgt := 1278) hx hb dL_law_1207 (by decide) (fun c9 => absurd c9 (by decide)) (fun _ => ?_)
  refine lv_aload_n hx hb dL_law_1210 rfl (lv_at hl 1 rfl) ?_
  refine lv_iload hx hb dL_law_1211 (lv_at hl 4 rfl) ?_
  refine lv_iload hx hb dL_law_1213 (lv_at hl 0 rfl) ?_
  refine y_lro (vx_runSW (As := [.ref h, .int (nI σ.2.2.2.2.1), .int 0]) (rest := []) ⟨hx, hb, hml, hown, hts⟩ (c_msg_0 l hl9 G k h a c σ H.size (nI σ.2.2.2.2.1) hJ.1) (vx_cwSW 3 hts gL_law_L_message rfl rfl rfl (by decide +kernel) ⟨Nat.le_of_ble_eq_true rfl, Nat.le_of_ble_eq_true rfl⟩) (yL_pre hS hV hP hK) rfl rfl hl.1 rfl (lv_room (Nat.le_of_ble_eq_true rfl)) dL_law_1215 ⟨show cells + 1 ≤ 756716 by omega, show slots + 6 ≤ 6824554 by omega⟩) hS (fun r H1 locs1 hr9 hk9 hS1 => ?_)
  have hP := yKeep hP hk9
  have hS := hS1
  clear hk9 hS1
  subst hr9
  refine y_top (msg_x (by decide) (inR_n (by omega))) ?_
  refine lv_sipush (v := (-1001)) hx hb dL_law_1218 (by decide) ?_
  refine lv_icmp_ne (tgt := 1270) hx hb dL_law_1221 (by decide) (fun c9 => absurd c9 (by decide)) (fun _ => ?_)
  refine lv_aload_n hx hb dL_law_1224 rfl (lv_at hl 1 rfl) ?_
  refine lv_iconst (v := (-1)) hx hb dL_law_1225 (by decide) ?_
  refine lv_iload hx hb dL_law_1226 (lv_at hl 0 rfl) ?_
  refine y_lro (vx_runSW (As := [.ref h, .int (-1), .int 0]) (rest := []) ⟨hx, hb, hml, hown, hts⟩ (c_msg_0 l hl9 G k h a c σ H1.size (-1) hJ.1) (vx_cwSW 3 hts gL_law_L_message rfl rfl rfl (by decide +kernel) ⟨Nat.le_of_ble_eq_true rfl, Nat.le_of_ble_eq_true rfl⟩) (yL_pre hS hV hP hK) rfl rfl hl.1 rfl (lv_room (Nat.le_of_ble_eq_true rfl)) dL_law_1228 ⟨show cells + 1 + 1 ≤ 756716 by omega, show slots + 6 + 6 ≤ 6824554 by omega⟩) hS (fun r H1 locs1 hr9 hk9 hS1 => ?_)
  have hP := yKeep hP hk9
  have hS := hS1
  clear hk9 hS1
  subst hr9
  refine y_top (msg_x (by decide) (inR_m)) ?_
  refine lv_sipush (v := (-1001)) hx hb dL_law_1231 (by decide) ?_
  refine lv_icmp_ne (tgt := 1270) hx hb dL_law_1234 (by decide) (fun c9 => absurd c9 (by decide)) (fun _ => ?_)
  refine lv_iload hx hb dL_law_1237 (lv_at hl 0 rfl) ?_
  refine lv_iconst (v := 5) hx hb dL_law_1239 (by decide) ?_
  refine lv_icmp_ge (tgt := 1272) hx hb dL_law_1240 (by decide) (fun c9 => absurd c9 (by decide)) (fun _ => ?_)
  refine lv_aload_n hx hb dL_law_1243 rfl (lv_at hl 1 rfl) ?_
  refine lv_iload hx hb dL_law_1244 (lv_at hl 3 rfl) ?_
  refine lv_iload hx hb dL_law_1246 (lv_at hl 0 rfl) ?_
  refine y_lro (vx_runSW (As := [.ref h, .int (nI σ.2.1), .int 0]) (rest := []) ⟨hx, hb, hml, hown, hts⟩ (c_of_0 l hl9 G k h a c σ H1.size (nI σ.2.1) hJ.1) (vx_cwSW 3 hts gL_law_L_of rfl rfl rfl (by decide +kernel) ⟨Nat.le_of_ble_eq_true rfl, Nat.le_of_ble_eq_true rfl⟩) (yL_pre hS hV hP hK) rfl rfl hl.1 rfl (lv_room (Nat.le_of_ble_eq_true rfl)) dL_law_1248 ⟨show cells + 1 + 1 + 1 ≤ 756716 by omega, show slots + 6 + 6 + 6 ≤ 6824554 by omega⟩) hS (fun r H1 locs1 hr9 hk9 hS1 => ?_)
  have hP := yKeep hP hk9
  have hS := hS1
  clear hk9 hS1
  subst hr9
  refine y_top (of_x (by decide) (inR_n (by omega))) ?_
  refine lv_sipush (v := (-1001)) hx hb dL_law_1251 (by decide) ?_
  refine lv_icmp_ne (tgt := 1270) hx hb dL_law_1254 (by decide) (fun c9 => absurd c9 (by decide)) (fun _ => ?_)
  refine lv_aload_n hx hb dL_law_1257 rfl (lv_at hl 1 rfl) ?_
  refine lv_iconst (v := (-1)) hx hb dL_law_1258 (by decide) ?_
  refine lv_iload hx hb dL_law_1259 (lv_at hl 0 rfl) ?_
  refine y_lro (vx_runSW (As := [.ref h, .int (-1), .int 0]) (rest := []) ⟨hx, hb, hml, hown, hts⟩ (c_of_0 l hl9 G k h a c σ H1.size (-1) hJ.1) (vx_cwSW 3 hts gL_law_L_of rfl rfl rfl (by decide +kernel) ⟨Nat.le_of_ble_eq_true rfl, Nat.le_of_ble_eq_true rfl⟩) (yL_pre hS hV hP hK) rfl rfl hl.1 rfl (lv_room (Nat.le_of_ble_eq_true rfl)) dL_law_1261 ⟨show cells + 1 + 1 + 1 + 1 ≤ 756716 by omega, show slots + 6 + 6 + 6 + 6 ≤ 6824554 by omega⟩) hS (fun r H1 locs1 hr9 hk9 hS1 => ?_)
  have hP := yKeep hP hk9
  have hS := hS1
  clear hk9 hS1
  subst hr9
  refine y_top (of_x (by decide) (inR_m)) ?_
  refine lv_sipush (v := (-1001)) hx hb dL_law_1264 (by decide) ?_
  refine lv_icmp_eq (tgt := 1272) hx hb dL_law_1267 (by decide) (fun _ => ?_) (fun c9 => absurd c9 (by decide))
  refine lv_iinc (v := 1) (lv' := [(7, .int 1), (1, .ref h), (3, .long (f_sum σ)), (5, .int (nI σ.2.1)), (6, .int (nI σ.2.2.2.2.1))]) hx hb dL_law_1272 hl (k := 0) rfl (by decide) (by decide) rfl (fun ls hl => ?_)
  refine lv_goto (tgt := 1203) hx hb dL_law_1275 (by decide) ?_
  refine lv_iload hx hb dL_law_1203 (lv_at hl 0 rfl) ?_
  refine lv_bipush (v := 8) hx hb dL_law_1205 (by decide) ?_
  refine lv_icmp_ge (tgt := 1278) hx hb dL_law_1207 (by decide) (fun c9 => absurd c9 (by decide)) (fun _ => ?_)
  refine lv_aload_n hx hb dL_law_1210 rfl (lv_at hl 1 rfl) ?_
  refine lv_iload hx hb dL_law_1211 (lv_at hl 4 rfl) ?_
  refine lv_iload hx hb dL_law_1213 (lv_at hl 0 rfl) ?_
  refine y_lro (vx_runSW (As := [.ref h, .int (nI σ.2.2.2.2.1), .int 1]) (rest := []) ⟨hx, hb, hml, hown, hts⟩ (c_msg_1 l hl9 G k h a c σ H1.size (nI σ.2.2.2.2.1) hJ.1) (vx_cwSW 3 hts gL_law_L_message rfl rfl rfl (by decide +kernel) ⟨Nat.le_of_ble_eq_true rfl, Nat.le_of_ble_eq_true rfl⟩) (yL_pre hS hV hP hK) rfl rfl hl.1 rfl (lv_room (Nat.le_of_ble_eq_true rfl)) dL_law_1215 ⟨show cells + 1 + 1 + 1 + 1 + 1 ≤ 756716 by omega, show slots + 6 + 6 + 6 + 6 + 6 ≤ 6824554 by omega⟩) hS (fun r H1 locs1 hr9 hk9 hS1 => ?_)
  have hP := yKeep hP hk9
  have hS := hS1
  clear hk9 hS1
  subst hr9
  refine y_top (msg_x (by decide) (inR_n (by omega))) ?_
  refine lv_sipush (v := (-1001)) hx hb dL_law_1218 (by decide) ?_
  refine lv_icmp_ne (tgt := 1270) hx hb dL_law_1221 (by decide) (fun c9 => absurd c9 (by decide)) (fun _ => ?_)
  refine lv_aload_n hx hb dL_law_1224 rfl (lv_at hl 1 rfl) ?_
  refine lv_iconst (v := (-1)) hx hb dL_law_1225 (by decide) ?_
  refine lv_iload hx hb dL_law_1226 (lv_at hl 0 rfl) ?_
  refine y_lro (vx_runSW (As := [.ref h, .int (-1), .int 1]) (rest := []) ⟨hx, hb, hml, hown, hts⟩ (c_msg_1 l hl9 G k h a c σ H1.size (-1) hJ.1) (vx_cwSW 3 hts gL_law_L_message rfl rfl rfl (by decide +kernel) ⟨Nat.le_of_ble_eq_true rfl, Nat.le_of_ble_eq_true rfl⟩) (yL_pre hS hV hP hK) rfl rfl hl.1 rfl (lv_room (Nat.le_of_ble_eq_true rfl)) dL_law_1228 ⟨show cells + 1 + 1 + 1 + 1 + 1 + 1 ≤ 756716 by omega, show slots + 6 + 6 + 6 + 6 + 6 + 6 ≤ 6824554 by omega⟩) hS (fun r H1 locs1 hr9 hk9 hS1 => ?_)
  have hP := yKeep hP hk9
  have hS := hS1
  clear hk9 hS1
  subst hr9
  refine y_top (msg_x (by decide) (inR_m)) ?_
  refine lv_sipush (v := (-1001)) hx hb dL_law_1231 (by decide) ?_
  refine lv_icmp_ne (tgt := 1270) hx hb dL_law_1234 (by decide) (fun c9 => absurd c9 (by decide)) (fun _ => ?_)
  refine lv_iload hx hb dL_law_1237 (lv_at hl 0 rfl) ?_
  refine lv_iconst (v := 5) hx hb dL_law_1239 (by decide) ?_
  refine lv_icmp_ge (tgt := 1272) hx hb dL_law_1240 (by decide) (fun c9 => absurd c9 (by decide)) (fun _ => ?_)
  refine lv_aload_n hx hb dL_law_1243 rfl (lv_at hl 1 rfl) ?_
  refine lv_iload hx hb dL_law_1244 (lv_at hl 3 rfl) ?_
  refine lv_iload hx hb dL_law_1246 (lv_at hl 0 rfl) ?_
  refine y_lro (vx_runSW (As := [.ref h, .int (nI σ.2.1), .int 1]) (rest := []) ⟨hx, hb, hml, hown, hts⟩ (c_of_1 l hl9 G k h a c σ H1.size (nI σ.2.1) hJ.1) (vx_cwSW 3 hts gL_law_L_of rfl rfl rfl (by decide +kernel) ⟨Nat.le_of_ble_eq_true rfl, Nat.le_of_ble_eq_true rfl⟩) (yL_pre hS hV hP hK) rfl rfl hl.1 rfl (lv_room (Nat.le_of_ble_eq_true rfl)) dL_law_1248 ⟨show cells + 1 + 1 + 1 + 1 + 1 + 1 + 1 ≤ 756716 by omega, show slots + 6 + 6 + 6 + 6 + 6 + 6 + 6 ≤ 6824554 by omega⟩) hS (fun r H1 locs1 hr9 hk9 hS1 => ?_)
  have hP := yKeep hP hk9
  have hS := hS1
  clear hk9 hS1
  subst hr9
  refine y_top (of_x (by decide) (inR_n (by omega))) ?_
  refine lv_sipush (v := (-1001)) hx hb dL_law_1251 (by decide) ?_
  refine lv_icmp_ne (tgt := 1270) hx hb dL_law_1254 (by decide) (fun c9 => absurd c9 (by decide)) (fun _ => ?_)
  refine lv_aload_n hx hb dL_law_1257 rfl (lv_at hl 1 rfl) ?_
  refine lv_iconst (v := (-1)) hx hb dL_law_1258 (by decide) ?_
  refine lv_iload hx hb dL_law_1259 (lv_at hl 0 rfl) ?_
  refine y_lro (vx_runSW (As := [.ref h, .int (-1), .int 1]) (rest := []) ⟨hx, hb, hml, hown, hts⟩ (c_of_1 l hl9 G k h a c σ H1.size (-1) hJ.1) (vx_cwSW 3 hts gL_law_L_of rfl rfl rfl (by decide +kernel) ⟨Nat.le_of_ble_eq_true rfl, Nat.le_of_ble_eq_true rfl⟩) (yL_pre hS hV hP hK) rfl rfl hl.1 rfl (lv_room (Nat.le_of_ble_eq_true rfl)) dL_law_1261 ⟨show cells + 1 + 1 + 1 + 1 + 1 + 1 + 1 + 1 ≤ 756716 by omega, show slots + 6 + 6 + 6 + 6 + 6 + 6 + 6 + 6 ≤ 6824554 by omega⟩) hS (fun r H1 locs1 hr9 hk9 hS1 => ?_)
  have hP := yKeep hP hk9
  have hS := hS1
  clear hk9 hS1
  subst hr9
  refine y_top (of_x (by decide) (inR_m)) ?_
  refine lv_sipush (v := (-1001)) hx hb dL_law_1264 (by decide) ?_
  refine lv_icmp_eq (tgt := 1272) hx hb dL_law_1267 (by decide) (fun _ => ?_) (fun c9 => absurd c9 (by decide))
  refine lv_iinc (v := 2) (lv' := [(7, .int 2), (1, .ref h), (3, .long (f_sum σ)), (5, .int (nI σ.2.1)), (6, .int (nI σ.2.2.2.2.1))]) hx hb dL_law_1272 hl (k := 0) rfl (by decide) (by decide) rfl (fun ls hl => ?_)
  refine lv_goto (tgt := 1203) hx hb dL_law_1275 (by decide) ?_
  refine lv_iload hx hb dL_law_1203 (lv_at hl 0 rfl) ?_
  refine lv_bipush (v := 8) hx hb dL_law_1205 (by decide) ?_
  refine lv_icmp_ge (tgt := 1278) hx hb dL_law_1207 (by decide) (fun c9 => absurd c9 (by decide)) (fun _ => ?_)
  refine lv_aload_n hx hb dL_law_1210 rfl (lv_at hl 1 rfl) ?_
  refine lv_iload hx hb dL_law_1211 (lv_at hl 4 rfl) ?_
  refine lv_iload hx hb dL_law_1213 (lv_at hl 0 rfl) ?_
  refine y_lro (vx_runSW (As := [.ref h, .int (nI σ.2.2.2.2.1), .int 2]) (rest := []) ⟨hx, hb, hml, hown, hts⟩ (c_msg_2 l hl9 G k h a c σ H1.size (nI σ.2.2.2.2.1) hJ.1) (vx_cwSW 3 hts gL_law_L_message rfl rfl rfl (by decide +kernel) ⟨Nat.le_of_ble_eq_true rfl, Nat.le_of_ble_eq_true rfl⟩) (yL_pre hS hV hP hK) rfl rfl hl.1 rfl (lv_room (Nat.le_of_ble_eq_true rfl)) dL_law_1215 ⟨show cells + 1 + 1 + 1 + 1 + 1 + 1 + 1 + 1 + 1 ≤ 756716 by omega, show slots + 6 + 6 + 6 + 6 + 6 + 6 + 6 + 6 + 6 ≤ 6824554 by omega⟩) hS (fun r H1 locs1 hr9 hk9 hS1 => ?_)
  have hP := yKeep hP hk9
  have hS := hS1
  clear hk9 hS1
  subst hr9
  refine y_top (msg_x (by decide) (inR_n (by omega))) ?_
  refine lv_sipush (v := (-1001)) hx hb dL_law_1218 (by decide) ?_
  refine lv_icmp_ne (tgt := 1270) hx hb dL_law_1221 (by decide) (fun c9 => absurd c9 (by decide)) (fun _ => ?_)
  refine lv_aload_n hx hb dL_law_1224 rfl (lv_at hl 1 rfl) ?_
  refine lv_iconst (v := (-1)) hx hb dL_law_1225 (by decide) ?_
  refine lv_iload hx hb dL_law_1226 (lv_at hl 0 rfl) ?_
  refine y_lro (vx_runSW (As := [.ref h, .int (-1), .int 2]) (rest := []) ⟨hx, hb, hml, hown, hts⟩ (c_msg_2 l hl9 G k h a c σ H1.size (-1) hJ.1) (vx_cwSW 3 hts gL_law_L_message rfl rfl rfl (by decide +kernel) ⟨Nat.le_of_ble_eq_true rfl, Nat.le_of_ble_eq_true rfl⟩) (yL_pre hS hV hP hK) rfl rfl hl.1 rfl (lv_room (Nat.le_of_ble_eq_true rfl)) dL_law_1228 ⟨show cells + 1 + 1 + 1 + 1 + 1 + 1 + 1 + 1 + 1 + 1 ≤ 756716 by omega, show slots + 6 + 6 + 6 + 6 + 6 + 6 + 6 + 6 + 6 + 6 ≤ 6824554 by omega⟩) hS (fun r H1 locs1 hr9 hk9 hS1 => ?_)
  have hP := yKeep hP hk9
  have hS := hS1
  clear hk9 hS1
  subst hr9
  refine y_top (msg_x (by decide) (inR_m)) ?_
  refine lv_sipush (v := (-1001)) hx hb dL_law_1231 (by decide) ?_
  refine lv_icmp_ne (tgt := 1270) hx hb dL_law_1234 (by decide) (fun c9 => absurd c9 (by decide)) (fun _ => ?_)
  refine lv_iload hx hb dL_law_1237 (lv_at hl 0 rfl) ?_
  refine lv_iconst (v := 5) hx hb dL_law_1239 (by decide) ?_
  refine lv_icmp_ge (tgt := 1272) hx hb dL_law_1240 (by decide) (fun c9 => absurd c9 (by decide)) (fun _ => ?_)
  refine lv_aload_n hx hb dL_law_1243 rfl (lv_at hl 1 rfl) ?_
  refine lv_iload hx hb dL_law_1244 (lv_at hl 3 rfl) ?_
  refine lv_iload hx hb dL_law_1246 (lv_at hl 0 rfl) ?_
  refine y_lro (vx_runSW (As := [.ref h, .int (nI σ.2.1), .int 2]) (rest := []) ⟨hx, hb, hml, hown, hts⟩ (c_of_2 l hl9 G k h a c σ H1.size (nI σ.2.1) hJ.1) (vx_cwSW 3 hts gL_law_L_of rfl rfl rfl (by decide +kernel) ⟨Nat.le_of_ble_eq_true rfl, Nat.le_of_ble_eq_true rfl⟩) (yL_pre hS hV hP hK) rfl rfl hl.1 rfl (lv_room (Nat.le_of_ble_eq_true rfl)) dL_law_1248 ⟨show cells + 1 + 1 + 1 + 1 + 1 + 1 + 1 + 1 + 1 + 1 + 1 ≤ 756716 by omega, show slots + 6 + 6 + 6 + 6 + 6 + 6 + 6 + 6 + 6 + 6 + 6 ≤ 6824554 by omega⟩) hS (fun r H1 locs1 hr9 hk9 hS1 => ?_)
  have hP := yKeep hP hk9
  have hS := hS1
  clear hk9 hS1
  subst hr9
  refine y_top (of_x (by decide) (inR_n (by omega))) ?_
  refine lv_sipush (v := (-1001)) hx hb dL_law_1251 (by decide) ?_
  refine lv_icmp_ne (tgt := 1270) hx hb dL_law_1254 (by decide) (fun c9 => absurd c9 (by decide)) (fun _ => ?_)
  refine lv_aload_n hx hb dL_law_1257 rfl (lv_at hl 1 rfl) ?_
  refine lv_iconst (v := (-1)) hx hb dL_law_1258 (by decide) ?_
  refine lv_iload hx hb dL_law_1259 (lv_at hl 0 rfl) ?_
  refine y_lro (vx_runSW (As := [.ref h, .int (-1), .int 2]) (rest := []) ⟨hx, hb, hml, hown, hts⟩ (c_of_2 l hl9 G k h a c σ H1.size (-1) hJ.1) (vx_cwSW 3 hts gL_law_L_of rfl rfl rfl (by decide +kernel) ⟨Nat.le_of_ble_eq_true rfl, Nat.le_of_ble_eq_true rfl⟩) (yL_pre hS hV hP hK) rfl rfl hl.1 rfl (lv_room (Nat.le_of_ble_eq_true rfl)) dL_law_1261 ⟨show cells + 1 + 1 + 1 + 1 + 1 + 1 + 1 + 1 + 1 + 1 + 1 + 1 ≤ 756716 by omega, show slots + 6 + 6 + 6 + 6 + 6 + 6 + 6 + 6 + 6 + 6 + 6 + 6 ≤ 6824554 by omega⟩) hS (fun r H1 locs1 hr9 hk9 hS1 => ?_)
  have hP := yKeep hP hk9
  have hS := hS1
  clear hk9 hS1
  subst hr9
  refine y_top (of_x (by decide) (inR_m)) ?_
  refine lv_sipush (v := (-1001)) hx hb dL_law_1264 (by decide) ?_
  refine lv_icmp_eq (tgt := 1272) hx hb dL_law_1267 (by decide) (fun _ => ?_) (fun c9 => absurd c9 (by decide))
  refine lv_iinc (v := 3) (lv' := [(7, .int 3), (1, .ref h), (3, .long (f_sum σ)), (5, .int (nI σ.2.1)), (6, .int (nI σ.2.2.2.2.1))]) hx hb dL_law_1272 hl (k := 0) rfl (by decide) (by decide) rfl (fun ls hl => ?_)
  refine lv_goto (tgt := 1203) hx hb dL_law_1275 (by decide) ?_
  refine lv_iload hx hb dL_law_1203 (lv_at hl 0 rfl) ?_
  refine lv_bipush (v := 8) hx hb dL_law_1205 (by decide) ?_
  refine lv_icmp_ge (tgt := 1278) hx hb dL_law_1207 (by decide) (fun c9 => absurd c9 (by decide)) (fun _ => ?_)
  refine lv_aload_n hx hb dL_law_1210 rfl (lv_at hl 1 rfl) ?_
  refine lv_iload hx hb dL_law_1211 (lv_at hl 4 rfl) ?_
  refine lv_iload hx hb dL_law_1213 (lv_at hl 0 rfl) ?_
  refine y_lro (vx_runSW (As := [.ref h, .int (nI σ.2.2.2.2.1), .int 3]) (rest := []) ⟨hx, hb, hml, hown, hts⟩ (c_msg_3 l hl9 G k h a c σ H1.size (nI σ.2.2.2.2.1) hJ.1) (vx_cwSW 3 hts gL_law_L_message rfl rfl rfl (by decide +kernel) ⟨Nat.le_of_ble_eq_true rfl, Nat.le_of_ble_eq_true rfl⟩) (yL_pre hS hV hP hK) rfl rfl hl.1 rfl (lv_room (Nat.le_of_ble_eq_true rfl)) dL_law_1215 ⟨show cells + 1 + 1 + 1 + 1 + 1 + 1 + 1 + 1 + 1 + 1 + 1 + 1 + 2 ≤ 756716 by omega, show slots + 6 + 6 + 6 + 6 + 6 + 6 + 6 + 6 + 6 + 6 + 6 + 6 + 12 ≤ 6824554 by omega⟩) hS (fun r H1 locs1 hr9 hk9 hS1 => ?_)
  have hP := yKeep hP hk9
  have hS := hS1
  clear hk9 hS1
  subst hr9
  refine y_top (msg_x (by decide) (inR_n (by omega))) ?_
  refine lv_sipush (v := (-1001)) hx hb dL_law_1218 (by decide) ?_
  refine lv_icmp_ne (tgt := 1270) hx hb dL_law_1221 (by decide) (fun c9 => absurd c9 (by decide)) (fun _ => ?_)
  refine lv_aload_n hx hb dL_law_1224 rfl (lv_at hl 1 rfl) ?_
  refine lv_iconst (v := (-1)) hx hb dL_law_1225 (by decide) ?_
  refine lv_iload hx hb dL_law_1226 (lv_at hl 0 rfl) ?_
  refine y_lro (vx_runSW (As := [.ref h, .int (-1), .int 3]) (rest := []) ⟨hx, hb, hml, hown, hts⟩ (c_msg_3 l hl9 G k h a c σ H1.size (-1) hJ.1) (vx_cwSW 3 hts gL_law_L_message rfl rfl rfl (by decide +kernel) ⟨Nat.le_of_ble_eq_true rfl, Nat.le_of_ble_eq_true rfl⟩) (yL_pre hS hV hP hK) rfl rfl hl.1 rfl (lv_room (Nat.le_of_ble_eq_true rfl)) dL_law_1228 ⟨show cells + 1 + 1 + 1 + 1 + 1 + 1 + 1 + 1 + 1 + 1 + 1 + 1 + 2 + 2 ≤ 756716 by omega, show slots + 6 + 6 + 6 + 6 + 6 + 6 + 6 + 6 + 6 + 6 + 6 + 6 + 12 + 12 ≤ 6824554 by omega⟩) hS (fun r H1 locs1 hr9 hk9 hS1 => ?_)
  have hP := yKeep hP hk9
  have hS := hS1
  clear hk9 hS1
  subst hr9
  refine y_top (msg_x (by decide) (inR_m)) ?_
  refine lv_sipush (v := (-1001)) hx hb dL_law_1231 (by decide) ?_
  refine lv_icmp_ne (tgt := 1270) hx hb dL_law_1234 (by decide) (fun c9 => absurd c9 (by decide)) (fun _ => ?_)
  refine lv_iload hx hb dL_law_1237 (lv_at hl 0 rfl) ?_
  refine lv_iconst (v := 5) hx hb dL_law_1239 (by decide) ?_
  refine lv_icmp_ge (tgt := 1272) hx hb dL_law_1240 (by decide) (fun c9 => absurd c9 (by decide)) (fun _ => ?_)
  refine lv_aload_n hx hb dL_law_1243 rfl (lv_at hl 1 rfl) ?_
  refine lv_iload hx hb dL_law_1244 (lv_at hl 3 rfl) ?_
  refine lv_iload hx hb dL_law_1246 (lv_at hl 0 rfl) ?_
  refine y_lro (vx_runSW (As := [.ref h, .int (nI σ.2.1), .int 3]) (rest := []) ⟨hx, hb, hml, hown, hts⟩ (c_of_3 l hl9 G k h a c σ H1.size (nI σ.2.1) hJ.1) (vx_cwSW 3 hts gL_law_L_of rfl rfl rfl (by decide +kernel) ⟨Nat.le_of_ble_eq_true rfl, Nat.le_of_ble_eq_true rfl⟩) (yL_pre hS hV hP hK) rfl rfl hl.1 rfl (lv_room (Nat.le_of_ble_eq_true rfl)) dL_law_1248 ⟨show cells + 1 + 1 + 1 + 1 + 1 + 1 + 1 + 1 + 1 + 1 + 1 + 1 + 2 + 2 + 2 ≤ 756716 by omega, show slots + 6 + 6 + 6 + 6 + 6 + 6 + 6 + 6 + 6 + 6 + 6 + 6 + 12 + 12 + 12 ≤ 6824554 by omega⟩) hS (fun r H1 locs1 hr9 hk9 hS1 => ?_)
  have hP := yKeep hP hk9
  have hS := hS1
  clear hk9 hS1
  subst hr9
  refine y_top (of_x (by decide) (inR_n (by omega))) ?_
  refine lv_sipush (v := (-1001)) hx hb dL_law_1251 (by decide) ?_
  refine lv_icmp_ne (tgt := 1270) hx hb dL_law_1254 (by decide) (fun c9 => absurd c9 (by decide)) (fun _ => ?_)
  refine lv_aload_n hx hb dL_law_1257 rfl (lv_at hl 1 rfl) ?_
  refine lv_iconst (v := (-1)) hx hb dL_law_1258 (by decide) ?_
  refine lv_iload hx hb dL_law_1259 (lv_at hl 0 rfl) ?_
  refine y_lro (vx_runSW (As := [.ref h, .int (-1), .int 3]) (rest := []) ⟨hx, hb, hml, hown, hts⟩ (c_of_3 l hl9 G k h a c σ H1.size (-1) hJ.1) (vx_cwSW 3 hts gL_law_L_of rfl rfl rfl (by decide +kernel) ⟨Nat.le_of_ble_eq_true rfl, Nat.le_of_ble_eq_true rfl⟩) (yL_pre hS hV hP hK) rfl rfl hl.1 rfl (lv_room (Nat.le_of_ble_eq_true rfl)) dL_law_1261 ⟨show cells + 1 + 1 + 1 + 1 + 1 + 1 + 1 + 1 + 1 + 1 + 1 + 1 + 2 + 2 + 2 + 2 ≤ 756716 by omega, show slots + 6 + 6 + 6 + 6 + 6 + 6 + 6 + 6 + 6 + 6 + 6 + 6 + 12 + 12 + 12 + 12 ≤ 6824554 by omega⟩) hS (fun r H1 locs1 hr9 hk9 hS1 => ?_)
  have hP := yKeep hP hk9
  have hS := hS1
  clear hk9 hS1
  subst hr9
  refine y_top (of_x (by decide) (inR_m)) ?_
  refine lv_sipush (v := (-1001)) hx hb dL_law_1264 (by decide) ?_
  refine lv_icmp_eq (tgt := 1272) hx hb dL_law_1267 (by decide) (fun _ => ?_) (fun c9 => absurd c9 (by decide))
  refine lv_iinc (v := 4) (lv' := [(7, .int 4), (1, .ref h), (3, .long (f_sum σ)), (5, .int (nI σ.2.1)), (6, .int (nI σ.2.2.2.2.1))]) hx hb dL_law_1272 hl (k := 0) rfl (by decide) (by decide) rfl (fun ls hl => ?_)
  refine lv_goto (tgt := 1203) hx hb dL_law_1275 (by decide) ?_
  refine lv_iload hx hb dL_law_1203 (lv_at hl 0 rfl) ?_
  refine lv_bipush (v := 8) hx hb dL_law_1205 (by decide) ?_
  refine lv_icmp_ge (tgt := 1278) hx hb dL_law_1207 (by decide) (fun c9 => absurd c9 (by decide)) (fun _ => ?_)
  refine lv_aload_n hx hb dL_law_1210 rfl (lv_at hl 1 rfl) ?_
  refine lv_iload hx hb dL_law_1211 (lv_at hl 4 rfl) ?_
  refine lv_iload hx hb dL_law_1213 (lv_at hl 0 rfl) ?_
  refine y_lro (vx_runSW (As := [.ref h, .int (nI σ.2.2.2.2.1), .int 4]) (rest := []) ⟨hx, hb, hml, hown, hts⟩ (c_msg_4 l hl9 G k h a c σ H1.size (nI σ.2.2.2.2.1) hJ.1) (vx_cwSW 3 hts gL_law_L_message rfl rfl rfl (by decide +kernel) ⟨Nat.le_of_ble_eq_true rfl, Nat.le_of_ble_eq_true rfl⟩) (yL_pre hS hV hP hK) rfl rfl hl.1 rfl (lv_room (Nat.le_of_ble_eq_true rfl)) dL_law_1215 ⟨show cells + 1 + 1 + 1 + 1 + 1 + 1 + 1 + 1 + 1 + 1 + 1 + 1 + 2 + 2 + 2 + 2 + 2 ≤ 756716 by omega, show slots + 6 + 6 + 6 + 6 + 6 + 6 + 6 + 6 + 6 + 6 + 6 + 6 + 12 + 12 + 12 + 12 + 12 ≤ 6824554 by omega⟩) hS (fun r H1 locs1 hr9 hk9 hS1 => ?_)
  have hP := yKeep hP hk9
  have hS := hS1
  clear hk9 hS1
  subst hr9
  refine y_top (msg_x (by decide) (inR_n (by omega))) ?_
  refine lv_sipush (v := (-1001)) hx hb dL_law_1218 (by decide) ?_
  refine lv_icmp_ne (tgt := 1270) hx hb dL_law_1221 (by decide) (fun c9 => absurd c9 (by decide)) (fun _ => ?_)
  refine lv_aload_n hx hb dL_law_1224 rfl (lv_at hl 1 rfl) ?_
  refine lv_iconst (v := (-1)) hx hb dL_law_1225 (by decide) ?_
  refine lv_iload hx hb dL_law_1226 (lv_at hl 0 rfl) ?_
  refine y_lro (vx_runSW (As := [.ref h, .int (-1), .int 4]) (rest := []) ⟨hx, hb, hml, hown, hts⟩ (c_msg_4 l hl9 G k h a c σ H1.size (-1) hJ.1) (vx_cwSW 3 hts gL_law_L_message rfl rfl rfl (by decide +kernel) ⟨Nat.le_of_ble_eq_true rfl, Nat.le_of_ble_eq_true rfl⟩) (yL_pre hS hV hP hK) rfl rfl hl.1 rfl (lv_room (Nat.le_of_ble_eq_true rfl)) dL_law_1228 ⟨show cells + 1 + 1 + 1 + 1 + 1 + 1 + 1 + 1 + 1 + 1 + 1 + 1 + 2 + 2 + 2 + 2 + 2 + 2 ≤ 756716 by omega, show slots + 6 + 6 + 6 + 6 + 6 + 6 + 6 + 6 + 6 + 6 + 6 + 6 + 12 + 12 + 12 + 12 + 12 + 12 ≤ 6824554 by omega⟩) hS (fun r H1 locs1 hr9 hk9 hS1 => ?_)
  have hP := yKeep hP hk9
  have hS := hS1
  clear hk9 hS1
  subst hr9
  refine y_top (msg_x (by decide) (inR_m)) ?_
  refine lv_sipush (v := (-1001)) hx hb dL_law_1231 (by decide) ?_
  refine lv_icmp_ne (tgt := 1270) hx hb dL_law_1234 (by decide) (fun c9 => absurd c9 (by decide)) (fun _ => ?_)
  refine lv_iload hx hb dL_law_1237 (lv_at hl 0 rfl) ?_
  refine lv_iconst (v := 5) hx hb dL_law_1239 (by decide) ?_
  refine lv_icmp_ge (tgt := 1272) hx hb dL_law_1240 (by decide) (fun c9 => absurd c9 (by decide)) (fun _ => ?_)
  refine lv_aload_n hx hb dL_law_1243 rfl (lv_at hl 1 rfl) ?_
  refine lv_iload hx hb dL_law_1244 (lv_at hl 3 rfl) ?_
  refine lv_iload hx hb dL_law_1246 (lv_at hl 0 rfl) ?_
  refine y_lrw (w := WS k h a c σ) (w' := WS k h a c (g_await (nI σ.2.1) σ)) (vx_runSW (As := [.ref h, .int (nI σ.2.1), .int 4]) (rest := []) ⟨hx, hb, hml, hown, hts⟩ (c_of_4 l hl9 G k h a c σ H1.size (nI σ.2.1) ((hDA σ).weaken (fun _ _ _ _ => trivial)) hJ.1) (vx_cwSW 3 hts gL_law_L_of rfl rfl rfl (by decide +kernel) ⟨Nat.le_of_ble_eq_true rfl, Nat.le_of_ble_eq_true rfl⟩) (yL_pre hS hV hP hK) rfl rfl hl.1 rfl (lv_room (Nat.le_of_ble_eq_true rfl)) dL_law_1248 ⟨show cells + 1 + 1 + 1 + 1 + 1 + 1 + 1 + 1 + 1 + 1 + 1 + 1 + 2 + 2 + 2 + 2 + 2 + 2 + 2 ≤ 756716 by omega, show slots + 6 + 6 + 6 + 6 + 6 + 6 + 6 + 6 + 6 + 6 + 6 + 6 + 12 + 12 + 12 + 12 + 12 + 12 + 12 ≤ 6824554 by omega⟩) (hDA σ) hS (fun r H1 locs1 hr9 hP1 hS1 => ?_)
  have hP := hP1
  have hS := hS1
  clear hP1 hS1
  have hr9 : r = f_await (nI σ.2.1) σ := hr9
  subst hr9
  have e9 : g_await (nI σ.2.1) σ = σ := (x_await (inR_n (by omega))).2
  rw [e9] at hP
  clear e9
  refine y_top ((x_await (inR_n (by omega))).1) ?_
  refine lv_sipush (v := (-1001)) hx hb dL_law_1251 (by decide) ?_
  refine lv_icmp_ne (tgt := 1270) hx hb dL_law_1254 (by decide) (fun c9 => absurd c9 (by decide)) (fun _ => ?_)
  refine lv_aload_n hx hb dL_law_1257 rfl (lv_at hl 1 rfl) ?_
  refine lv_iconst (v := (-1)) hx hb dL_law_1258 (by decide) ?_
  refine lv_iload hx hb dL_law_1259 (lv_at hl 0 rfl) ?_
  refine y_lrw (w := WS k h a c σ) (w' := WS k h a c (g_await (-1) σ)) (vx_runSW (As := [.ref h, .int (-1), .int 4]) (rest := []) ⟨hx, hb, hml, hown, hts⟩ (c_of_4 l hl9 G k h a c σ H1.size (-1) ((hDA σ).weaken (fun _ _ _ _ => trivial)) hJ.1) (vx_cwSW 3 hts gL_law_L_of rfl rfl rfl (by decide +kernel) ⟨Nat.le_of_ble_eq_true rfl, Nat.le_of_ble_eq_true rfl⟩) (yL_pre hS hV hP hK) rfl rfl hl.1 rfl (lv_room (Nat.le_of_ble_eq_true rfl)) dL_law_1261 ⟨show cells + 1 + 1 + 1 + 1 + 1 + 1 + 1 + 1 + 1 + 1 + 1 + 1 + 2 + 2 + 2 + 2 + 2 + 2 + 2 + 2 ≤ 756716 by omega, show slots + 6 + 6 + 6 + 6 + 6 + 6 + 6 + 6 + 6 + 6 + 6 + 6 + 12 + 12 + 12 + 12 + 12 + 12 + 12 + 12 ≤ 6824554 by omega⟩) (hDA σ) hS (fun r H1 locs1 hr9 hP1 hS1 => ?_)
  have hP := hP1
  have hS := hS1
  clear hP1 hS1
  have hr9 : r = f_await (-1) σ := hr9
  subst hr9
  have e9 : g_await (-1) σ = σ := (x_await (inR_m)).2
  rw [e9] at hP
  clear e9
  refine y_top ((x_await (inR_m)).1) ?_
  refine lv_sipush (v := (-1001)) hx hb dL_law_1264 (by decide) ?_
  refine lv_icmp_eq (tgt := 1272) hx hb dL_law_1267 (by decide) (fun _ => ?_) (fun c9 => absurd c9 (by decide))
  refine lv_iinc (v := 5) (lv' := [(7, .int 5), (1, .ref h), (3, .long (f_sum σ)), (5, .int (nI σ.2.1)), (6, .int (nI σ.2.2.2.2.1))]) hx hb dL_law_1272 hl (k := 0) rfl (by decide) (by decide) rfl (fun ls hl => ?_)
  refine lv_goto (tgt := 1203) hx hb dL_law_1275 (by decide) ?_
  refine lv_iload hx hb dL_law_1203 (lv_at hl 0 rfl) ?_
  refine lv_bipush (v := 8) hx hb dL_law_1205 (by decide) ?_
  refine lv_icmp_ge (tgt := 1278) hx hb dL_law_1207 (by decide) (fun c9 => absurd c9 (by decide)) (fun _ => ?_)
  refine lv_aload_n hx hb dL_law_1210 rfl (lv_at hl 1 rfl) ?_
  refine lv_iload hx hb dL_law_1211 (lv_at hl 4 rfl) ?_
  refine lv_iload hx hb dL_law_1213 (lv_at hl 0 rfl) ?_
  refine y_lrw (w := WS k h a c σ) (w' := WS k h a c (g_fin (nI σ.2.2.2.2.1) σ)) (vx_runSW (As := [.ref h, .int (nI σ.2.2.2.2.1), .int 5]) (rest := []) ⟨hx, hb, hml, hown, hts⟩ (c_msg_5 l hl9 G k h a c σ H1.size (nI σ.2.2.2.2.1) ((hDA σ).weaken (fun _ _ _ _ => trivial)) hJ.1) (vx_cwSW 3 hts gL_law_L_message rfl rfl rfl (by decide +kernel) ⟨Nat.le_of_ble_eq_true rfl, Nat.le_of_ble_eq_true rfl⟩) (yL_pre hS hV hP hK) rfl rfl hl.1 rfl (lv_room (Nat.le_of_ble_eq_true rfl)) dL_law_1215 ⟨show cells + 1 + 1 + 1 + 1 + 1 + 1 + 1 + 1 + 1 + 1 + 1 + 1 + 2 + 2 + 2 + 2 + 2 + 2 + 2 + 2 + 2 ≤ 756716 by omega, show slots + 6 + 6 + 6 + 6 + 6 + 6 + 6 + 6 + 6 + 6 + 6 + 6 + 12 + 12 + 12 + 12 + 12 + 12 + 12 + 12 + 12 ≤ 6824554 by omega⟩) (hDA σ) hS (fun r H1 locs1 hr9 hP1 hS1 => ?_)
  have hP := hP1
  have hS := hS1
  clear hP1 hS1
  have hr9 : r = f_fin (nI σ.2.2.2.2.1) σ := hr9
  subst hr9
  have e9 : g_fin (nI σ.2.2.2.2.1) σ = σ := (x_fin (inR_n (by omega))).2
  rw [e9] at hP
  clear e9
  refine y_top ((x_fin (inR_n (by omega))).1) ?_
  refine lv_sipush (v := (-1001)) hx hb dL_law_1218 (by decide) ?_
  refine lv_icmp_ne (tgt := 1270) hx hb dL_law_1221 (by decide) (fun c9 => absurd c9 (by decide)) (fun _ => ?_)
  refine lv_aload_n hx hb dL_law_1224 rfl (lv_at hl 1 rfl) ?_
  refine lv_iconst (v := (-1)) hx hb dL_law_1225 (by decide) ?_
  refine lv_iload hx hb dL_law_1226 (lv_at hl 0 rfl) ?_
  refine y_lrw (w := WS k h a c σ) (w' := WS k h a c (g_fin (-1) σ)) (vx_runSW (As := [.ref h, .int (-1), .int 5]) (rest := []) ⟨hx, hb, hml, hown, hts⟩ (c_msg_5 l hl9 G k h a c σ H1.size (-1) ((hDA σ).weaken (fun _ _ _ _ => trivial)) hJ.1) (vx_cwSW 3 hts gL_law_L_message rfl rfl rfl (by decide +kernel) ⟨Nat.le_of_ble_eq_true rfl, Nat.le_of_ble_eq_true rfl⟩) (yL_pre hS hV hP hK) rfl rfl hl.1 rfl (lv_room (Nat.le_of_ble_eq_true rfl)) dL_law_1228 ⟨show cells + 1 + 1 + 1 + 1 + 1 + 1 + 1 + 1 + 1 + 1 + 1 + 1 + 2 + 2 + 2 + 2 + 2 + 2 + 2 + 2 + 2 + 2 ≤ 756716 by omega, show slots + 6 + 6 + 6 + 6 + 6 + 6 + 6 + 6 + 6 + 6 + 6 + 6 + 12 + 12 + 12 + 12 + 12 + 12 + 12 + 12 + 12 + 12 ≤ 6824554 by omega⟩) (hDA σ) hS (fun r H1 locs1 hr9 hP1 hS1 => ?_)
  have hP := hP1
  have hS := hS1
  clear hP1 hS1
  have hr9 : r = f_fin (-1) σ := hr9
  subst hr9
  have e9 : g_fin (-1) σ = σ := (x_fin (inR_m)).2
  rw [e9] at hP
  clear e9
  refine y_top ((x_fin (inR_m)).1) ?_
  refine lv_sipush (v := (-1001)) hx hb dL_law_1231 (by decide) ?_
  refine lv_icmp_ne (tgt := 1270) hx hb dL_law_1234 (by decide) (fun c9 => absurd c9 (by decide)) (fun _ => ?_)
  refine lv_iload hx hb dL_law_1237 (lv_at hl 0 rfl) ?_
  refine lv_iconst (v := 5) hx hb dL_law_1239 (by decide) ?_
  refine lv_icmp_ge (tgt := 1272) hx hb dL_law_1240 (by decide) (fun _ => ?_) (fun c9 => absurd c9 (by decide))
  refine lv_iinc (v := 6) (lv' := [(7, .int 6), (1, .ref h), (3, .long (f_sum σ)), (5, .int (nI σ.2.1)), (6, .int (nI σ.2.2.2.2.1))]) hx hb dL_law_1272 hl (k := 0) rfl (by decide) (by decide) rfl (fun ls hl => ?_)
  refine lv_goto (tgt := 1203) hx hb dL_law_1275 (by decide) ?_
  refine lv_iload hx hb dL_law_1203 (lv_at hl 0 rfl) ?_
  refine lv_bipush (v := 8) hx hb dL_law_1205 (by decide) ?_
  refine lv_icmp_ge (tgt := 1278) hx hb dL_law_1207 (by decide) (fun c9 => absurd c9 (by decide)) (fun _ => ?_)
  refine lv_aload_n hx hb dL_law_1210 rfl (lv_at hl 1 rfl) ?_
  refine lv_iload hx hb dL_law_1211 (lv_at hl 4 rfl) ?_
  refine lv_iload hx hb dL_law_1213 (lv_at hl 0 rfl) ?_
  refine y_lrw (w := WS k h a c σ) (w' := WS k h a c (g_hb (nI σ.2.2.2.2.1) σ)) (vx_runSW (As := [.ref h, .int (nI σ.2.2.2.2.1), .int 6]) (rest := []) ⟨hx, hb, hml, hown, hts⟩ (c_msg_6 l hl9 G k h a c σ H1.size (nI σ.2.2.2.2.1) ((hDA σ).weaken (fun _ _ _ _ => trivial)) hJ.1) (vx_cwSW 3 hts gL_law_L_message rfl rfl rfl (by decide +kernel) ⟨Nat.le_of_ble_eq_true rfl, Nat.le_of_ble_eq_true rfl⟩) (yL_pre hS hV hP hK) rfl rfl hl.1 rfl (lv_room (Nat.le_of_ble_eq_true rfl)) dL_law_1215 ⟨show cells + 1 + 1 + 1 + 1 + 1 + 1 + 1 + 1 + 1 + 1 + 1 + 1 + 2 + 2 + 2 + 2 + 2 + 2 + 2 + 2 + 2 + 2 + 2 ≤ 756716 by omega, show slots + 6 + 6 + 6 + 6 + 6 + 6 + 6 + 6 + 6 + 6 + 6 + 6 + 12 + 12 + 12 + 12 + 12 + 12 + 12 + 12 + 12 + 12 + 12 ≤ 6824554 by omega⟩) (hDA σ) hS (fun r H1 locs1 hr9 hP1 hS1 => ?_)
  have hP := hP1
  have hS := hS1
  clear hP1 hS1
  have hr9 : r = f_hb (nI σ.2.2.2.2.1) σ := hr9
  subst hr9
  have e9 : g_hb (nI σ.2.2.2.2.1) σ = σ := (x_hb (inR_n (by omega))).2
  rw [e9] at hP
  clear e9
  refine y_top ((x_hb (inR_n (by omega))).1) ?_
  refine lv_sipush (v := (-1001)) hx hb dL_law_1218 (by decide) ?_
  refine lv_icmp_ne (tgt := 1270) hx hb dL_law_1221 (by decide) (fun c9 => absurd c9 (by decide)) (fun _ => ?_)
  refine lv_aload_n hx hb dL_law_1224 rfl (lv_at hl 1 rfl) ?_
  refine lv_iconst (v := (-1)) hx hb dL_law_1225 (by decide) ?_
  refine lv_iload hx hb dL_law_1226 (lv_at hl 0 rfl) ?_
  refine y_lrw (w := WS k h a c σ) (w' := WS k h a c (g_hb (-1) σ)) (vx_runSW (As := [.ref h, .int (-1), .int 6]) (rest := []) ⟨hx, hb, hml, hown, hts⟩ (c_msg_6 l hl9 G k h a c σ H1.size (-1) ((hDA σ).weaken (fun _ _ _ _ => trivial)) hJ.1) (vx_cwSW 3 hts gL_law_L_message rfl rfl rfl (by decide +kernel) ⟨Nat.le_of_ble_eq_true rfl, Nat.le_of_ble_eq_true rfl⟩) (yL_pre hS hV hP hK) rfl rfl hl.1 rfl (lv_room (Nat.le_of_ble_eq_true rfl)) dL_law_1228 ⟨show cells + 1 + 1 + 1 + 1 + 1 + 1 + 1 + 1 + 1 + 1 + 1 + 1 + 2 + 2 + 2 + 2 + 2 + 2 + 2 + 2 + 2 + 2 + 2 + 2 ≤ 756716 by omega, show slots + 6 + 6 + 6 + 6 + 6 + 6 + 6 + 6 + 6 + 6 + 6 + 6 + 12 + 12 + 12 + 12 + 12 + 12 + 12 + 12 + 12 + 12 + 12 + 12 ≤ 6824554 by omega⟩) (hDA σ) hS (fun r H1 locs1 hr9 hP1 hS1 => ?_)
  have hP := hP1
  have hS := hS1
  clear hP1 hS1
  have hr9 : r = f_hb (-1) σ := hr9
  subst hr9
  have e9 : g_hb (-1) σ = σ := (x_hb (inR_m)).2
  rw [e9] at hP
  clear e9
  refine y_top ((x_hb (inR_m)).1) ?_
  refine lv_sipush (v := (-1001)) hx hb dL_law_1231 (by decide) ?_
  refine lv_icmp_ne (tgt := 1270) hx hb dL_law_1234 (by decide) (fun c9 => absurd c9 (by decide)) (fun _ => ?_)
  refine lv_iload hx hb dL_law_1237 (lv_at hl 0 rfl) ?_
  refine lv_iconst (v := 5) hx hb dL_law_1239 (by decide) ?_
  refine lv_icmp_ge (tgt := 1272) hx hb dL_law_1240 (by decide) (fun _ => ?_) (fun c9 => absurd c9 (by decide))
  refine lv_iinc (v := 7) (lv' := [(7, .int 7), (1, .ref h), (3, .long (f_sum σ)), (5, .int (nI σ.2.1)), (6, .int (nI σ.2.2.2.2.1))]) hx hb dL_law_1272 hl (k := 0) rfl (by decide) (by decide) rfl (fun ls hl => ?_)
  refine lv_goto (tgt := 1203) hx hb dL_law_1275 (by decide) ?_
  refine lv_iload hx hb dL_law_1203 (lv_at hl 0 rfl) ?_
  refine lv_bipush (v := 8) hx hb dL_law_1205 (by decide) ?_
  refine lv_icmp_ge (tgt := 1278) hx hb dL_law_1207 (by decide) (fun c9 => absurd c9 (by decide)) (fun _ => ?_)
  refine lv_aload_n hx hb dL_law_1210 rfl (lv_at hl 1 rfl) ?_
  refine lv_iload hx hb dL_law_1211 (lv_at hl 4 rfl) ?_
  refine lv_iload hx hb dL_law_1213 (lv_at hl 0 rfl) ?_
  refine y_lrw (w := WS k h a c σ) (w' := WS k h a c (g_rev (nI σ.2.2.2.2.1) σ)) (vx_runSW (As := [.ref h, .int (nI σ.2.2.2.2.1), .int 7]) (rest := []) ⟨hx, hb, hml, hown, hts⟩ (c_msg_7 l hl9 G k h a c σ H1.size (nI σ.2.2.2.2.1) ((hDA σ).weaken (fun _ _ _ _ => trivial)) hJ.1) (vx_cwSW 3 hts gL_law_L_message rfl rfl rfl (by decide +kernel) ⟨Nat.le_of_ble_eq_true rfl, Nat.le_of_ble_eq_true rfl⟩) (yL_pre hS hV hP hK) rfl rfl hl.1 rfl (lv_room (Nat.le_of_ble_eq_true rfl)) dL_law_1215 ⟨show cells + 1 + 1 + 1 + 1 + 1 + 1 + 1 + 1 + 1 + 1 + 1 + 1 + 2 + 2 + 2 + 2 + 2 + 2 + 2 + 2 + 2 + 2 + 2 + 2 + 2 ≤ 756716 by omega, show slots + 6 + 6 + 6 + 6 + 6 + 6 + 6 + 6 + 6 + 6 + 6 + 6 + 12 + 12 + 12 + 12 + 12 + 12 + 12 + 12 + 12 + 12 + 12 + 12 + 12 ≤ 6824554 by omega⟩) (hDA σ) hS (fun r H1 locs1 hr9 hP1 hS1 => ?_)
  have hP := hP1
  have hS := hS1
  clear hP1 hS1
  have hr9 : r = f_rev (nI σ.2.2.2.2.1) σ := hr9
  subst hr9
  have e9 : g_rev (nI σ.2.2.2.2.1) σ = σ := (x_rev (inR_n (by omega))).2
  rw [e9] at hP
  clear e9
  refine y_top ((x_rev (inR_n (by omega))).1) ?_
  refine lv_sipush (v := (-1001)) hx hb dL_law_1218 (by decide) ?_
  refine lv_icmp_ne (tgt := 1270) hx hb dL_law_1221 (by decide) (fun c9 => absurd c9 (by decide)) (fun _ => ?_)
  refine lv_aload_n hx hb dL_law_1224 rfl (lv_at hl 1 rfl) ?_
  refine lv_iconst (v := (-1)) hx hb dL_law_1225 (by decide) ?_
  refine lv_iload hx hb dL_law_1226 (lv_at hl 0 rfl) ?_
  refine y_lrw (w := WS k h a c σ) (w' := WS k h a c (g_rev (-1) σ)) (vx_runSW (As := [.ref h, .int (-1), .int 7]) (rest := []) ⟨hx, hb, hml, hown, hts⟩ (c_msg_7 l hl9 G k h a c σ H1.size (-1) ((hDA σ).weaken (fun _ _ _ _ => trivial)) hJ.1) (vx_cwSW 3 hts gL_law_L_message rfl rfl rfl (by decide +kernel) ⟨Nat.le_of_ble_eq_true rfl, Nat.le_of_ble_eq_true rfl⟩) (yL_pre hS hV hP hK) rfl rfl hl.1 rfl (lv_room (Nat.le_of_ble_eq_true rfl)) dL_law_1228 ⟨show cells + 1 + 1 + 1 + 1 + 1 + 1 + 1 + 1 + 1 + 1 + 1 + 1 + 2 + 2 + 2 + 2 + 2 + 2 + 2 + 2 + 2 + 2 + 2 + 2 + 2 + 2 ≤ 756716 by omega, show slots + 6 + 6 + 6 + 6 + 6 + 6 + 6 + 6 + 6 + 6 + 6 + 6 + 12 + 12 + 12 + 12 + 12 + 12 + 12 + 12 + 12 + 12 + 12 + 12 + 12 + 12 ≤ 6824554 by omega⟩) (hDA σ) hS (fun r H1 locs1 hr9 hP1 hS1 => ?_)
  have hP := hP1
  have hS := hS1
  clear hP1 hS1
  have hr9 : r = f_rev (-1) σ := hr9
  subst hr9
  have e9 : g_rev (-1) σ = σ := (x_rev (inR_m)).2
  rw [e9] at hP
  clear e9
  refine y_top ((x_rev (inR_m)).1) ?_
  refine lv_sipush (v := (-1001)) hx hb dL_law_1231 (by decide) ?_
  refine lv_icmp_ne (tgt := 1270) hx hb dL_law_1234 (by decide) (fun c9 => absurd c9 (by decide)) (fun _ => ?_)
  refine lv_iload hx hb dL_law_1237 (lv_at hl 0 rfl) ?_
  refine lv_iconst (v := 5) hx hb dL_law_1239 (by decide) ?_
  refine lv_icmp_ge (tgt := 1272) hx hb dL_law_1240 (by decide) (fun _ => ?_) (fun c9 => absurd c9 (by decide))
  refine lv_iinc (v := 8) (lv' := [(7, .int 8), (1, .ref h), (3, .long (f_sum σ)), (5, .int (nI σ.2.1)), (6, .int (nI σ.2.2.2.2.1))]) hx hb dL_law_1272 hl (k := 0) rfl (by decide) (by decide) rfl (fun ls hl => ?_)
  refine lv_goto (tgt := 1203) hx hb dL_law_1275 (by decide) ?_
  refine lv_iload hx hb dL_law_1203 (lv_at hl 0 rfl) ?_
  refine lv_bipush (v := 8) hx hb dL_law_1205 (by decide) ?_
  refine lv_icmp_ge (tgt := 1278) hx hb dL_law_1207 (by decide) (fun _ => ?_) (fun c9 => absurd c9 (by decide))
  refine lv_aload_n hx hb dL_law_1278 rfl (lv_at hl 1 rfl) ?_
  refine y_lroL (va_runS (As := [.ref h]) (rest := []) ⟨hx, hb, hml, hown, hts⟩ (c_sum l hl9 G k h a c σ H1.size hJ) (va_cwS 1 hts gL_law_L_sum rfl rfl rfl (by decide +kernel) ⟨Nat.le_of_ble_eq_true rfl, Nat.le_of_ble_eq_true rfl⟩) (yL_pre hS hV hP hK) rfl rfl hl.1 rfl (lv_room (Nat.le_of_ble_eq_true rfl)) dL_law_1279 ⟨show cells + 1 + 1 + 1 + 1 + 1 + 1 + 1 + 1 + 1 + 1 + 1 + 1 + 2 + 2 + 2 + 2 + 2 + 2 + 2 + 2 + 2 + 2 + 2 + 2 + 2 + 2 + 600 ≤ 756716 by omega, show slots + 6 + 6 + 6 + 6 + 6 + 6 + 6 + 6 + 6 + 6 + 6 + 6 + 12 + 12 + 12 + 12 + 12 + 12 + 12 + 12 + 12 + 12 + 12 + 12 + 12 + 12 + 3600 ≤ 6824554 by omega⟩) hS (fun r H1 locs1 hr9 hk9 hS1 => ?_)
  have hP := yKeep hP hk9
  have hS := hS1
  clear hk9 hS1
  subst hr9
  refine lv_lload_n hx hb dL_law_1282 rfl (lv_at hl 2 rfl) ?_
  refine y_lcmp hx hb (x := (f_sum σ)) (y := (f_sum σ)) (rfl) dL_law_1283 ?_
  refine lv_if_ne (tgt := 1291) hx hb dL_law_1284 (by decide) (fun c9 => absurd c9 (by decide)) (fun _ => ?_)
  refine lv_iconst (v := 1) hx hb dL_law_1287 (by decide) ?_
  refine lv_goto (tgt := 1292) hx hb dL_law_1288 (by decide) ?_
  refine va_forget (fun q hq => hS.2.2 q hq) ?_
  refine W.widen (k := 756716) (n := 6824554) (show cells + 1 + 1 + 1 + 1 + 1 + 1 + 1 + 1 + 1 + 1 + 1 + 1 + 2 + 2 + 2 + 2 + 2 + 2 + 2 + 2 + 2 + 2 + 2 + 2 + 2 + 2 + 600 ≤ 756716 by omega) (show slots + 6 + 6 + 6 + 6 + 6 + 6 + 6 + 6 + 6 + 6 + 6 + 6 + 12 + 12 + 12 + 12 + 12 + 12 + 12 + 12 + 12 + 12 + 12 + 12 + 12 + 12 + 3600 ≤ 6824554 by omega) ?_
  exact lw_ret (d0 := s.drawn) (Drawn.sameBut.refl s.drawn lw_cs) hx hb hr hlocks dL_law_1292

set_option maxHeartbeats 8000000 in
set_option maxRecDepth 100000 in
theorem law_end2 {p : Program} {l : Launch} {e : Env} {s : State} {m : MethodId} {below : List Frame} {meth : Method} {c_ : Code} {b L : Nat} {xs : Nat → Int32} {G : va_G} {k : Nat → ClassId} {h : Nat} {a c : Nat → Nat} (F : LF p l s m meth c_ b L xs G k h a c) {σ : SX} (hJ : yJs σ) {H : Heap} {locs : List Loc} {cells slots : Nat} {ls : Array Slot} (hP : va_P G vwCl (WS k h a c σ) H) (hS : yO s H locs) (hb1 : cells + 850 ≤ 756716) (hb2 : slots + 5100 ≤ 6824554) (hl : lv_has ls 16 [(1, .ref h), (3, .long (f_sum σ)), (5, .int (nI σ.2.1)), (6, .int (nI σ.2.2.2.2.1))]) : W p l e room_1 s m #[Value.ref b] below meth c_ H locs cells slots (lw_Z below #[Value.ref b] s) (F0 m 1046 ls []) := by
  have F9 := F
  obtain ⟨hx, hb, hr, hml, hown, hts, hX, hbl, hL, hK, hV, hl9, hlocks, hDA⟩ := F
  have hn0 : σ.2.1 ≤ 8 := J_n0 hJ
  have hn1 : σ.2.2.2.2.1 ≤ 80 := J_n1 hJ
  refine lv_aload_n hx hb dL_law_1046 rfl (lv_at hl 0 rfl) ?_
  refine lv_iconst (v := (-1)) hx hb dL_law_1047 (by decide) ?_
  refine y_lro (vx_runSW (As := [.ref h, .int (-1)]) (rest := []) ⟨hx, hb, hml, hown, hts⟩ (c_wk l hl9 G k h a c σ H.size (-1) hJ.1) (vx_cwSW 2 hts gL_law_L_withKey rfl rfl rfl (by decide +kernel) ⟨Nat.le_of_ble_eq_true rfl, Nat.le_of_ble_eq_true rfl⟩) (yL_pre hS hV hP hK) rfl rfl hl.1 rfl (lv_room (Nat.le_of_ble_eq_true rfl)) dL_law_1048 ⟨show cells + 1 ≤ 756716 by omega, show slots + 6 ≤ 6824554 by omega⟩) hS (fun r H1 locs1 hr9 hk9 hS1 => ?_)
  have hP := yKeep hP hk9
  have hS := hS1
  clear hk9 hS1
  subst hr9
  refine y_top (x_wk1 hJ) ?_
  refine lv_sipush (v := (-1001)) hx hb dL_law_1051 (by decide) ?_
  refine lv_icmp_ne (tgt := 1198) hx hb dL_law_1054 (by decide) (fun c9 => absurd c9 (by decide)) (fun _ => ?_)
  refine lv_aload_n hx hb dL_law_1057 rfl (lv_at hl 0 rfl) ?_
  refine lv_sipush (v := 1003) hx hb dL_law_1058 (by decide) ?_
  refine y_lro (vx_runSW (As := [.ref h, .int 1003]) (rest := []) ⟨hx, hb, hml, hown, hts⟩ (c_wk l hl9 G k h a c σ H1.size 1003 hJ.1) (vx_cwSW 2 hts gL_law_L_withKey rfl rfl rfl (by decide +kernel) ⟨Nat.le_of_ble_eq_true rfl, Nat.le_of_ble_eq_true rfl⟩) (yL_pre hS hV hP hK) rfl rfl hl.1 rfl (lv_room (Nat.le_of_ble_eq_true rfl)) dL_law_1061 ⟨show cells + 1 + 1 ≤ 756716 by omega, show slots + 6 + 6 ≤ 6824554 by omega⟩) hS (fun r H1 locs1 hr9 hk9 hS1 => ?_)
  have hP := yKeep hP hk9
  have hS := hS1
  clear hk9 hS1
  subst hr9
  refine y_top (x_wk2 hJ) ?_
  refine lv_sipush (v := (-1001)) hx hb dL_law_1064 (by decide) ?_
  refine lv_icmp_ne (tgt := 1198) hx hb dL_law_1067 (by decide) (fun c9 => absurd c9 (by decide)) (fun _ => ?_)
  refine lv_aload_n hx hb dL_law_1070 rfl (lv_at hl 0 rfl) ?_
  refine lv_iconst (v := 3) hx hb dL_law_1071 (by decide) ?_
  refine lv_iconst (v := (-1)) hx hb dL_law_1072 (by decide) ?_
  refine y_lro (vx_runSW (As := [.ref h, .int 3, .int (-1)]) (rest := []) ⟨hx, hb, hml, hown, hts⟩ (c_rdy l hl9 G k h a c σ H1.size 3 hJ.1) (vx_cwSW 3 hts gL_law_L_ready rfl rfl rfl (by decide +kernel) ⟨Nat.le_of_ble_eq_true rfl, Nat.le_of_ble_eq_true rfl⟩) (yL_pre hS hV hP hK) rfl rfl hl.1 rfl (lv_room (Nat.le_of_ble_eq_true rfl)) dL_law_1073 ⟨show cells + 1 + 1 + 1 ≤ 756716 by omega, show slots + 6 + 6 + 6 ≤ 6824554 by omega⟩) hS (fun r H1 locs1 hr9 hk9 hS1 => ?_)
  have hP := yKeep hP hk9
  have hS := hS1
  clear hk9 hS1
  subst hr9
  refine y_top (x_rdy (by decide)) ?_
  refine lv_sipush (v := (-1001)) hx hb dL_law_1076 (by decide) ?_
  refine lv_icmp_ne (tgt := 1198) hx hb dL_law_1079 (by decide) (fun c9 => absurd c9 (by decide)) (fun _ => ?_)
  refine lv_aload_n hx hb dL_law_1082 rfl (lv_at hl 0 rfl) ?_
  refine lv_iconst (v := (-1)) hx hb dL_law_1083 (by decide) ?_
  refine lv_iconst (v := 0) hx hb dL_law_1084 (by decide) ?_
  refine y_lro (vx_runSW (As := [.ref h, .int (-1), .int 0]) (rest := []) ⟨hx, hb, hml, hown, hts⟩ (c_rap l hl9 G k h a c σ H1.size (-1) 0 hJ.1 (by decide)) (vx_cwSW 3 hts gL_law_L_ready rfl rfl rfl (by decide +kernel) ⟨Nat.le_of_ble_eq_true rfl, Nat.le_of_ble_eq_true rfl⟩) (yL_pre hS hV hP hK) rfl rfl hl.1 rfl (lv_room (Nat.le_of_ble_eq_true rfl)) dL_law_1085 ⟨show cells + 1 + 1 + 1 + 2 ≤ 756716 by omega, show slots + 6 + 6 + 6 + 12 ≤ 6824554 by omega⟩) hS (fun r H1 locs1 hr9 hk9 hS1 => ?_)
  have hP := yKeep hP hk9
  have hS := hS1
  clear hk9 hS1
  subst hr9
  refine y_top (x_rap1 (by decide)) ?_
  refine lv_sipush (v := (-1001)) hx hb dL_law_1088 (by decide) ?_
  refine lv_icmp_ne (tgt := 1198) hx hb dL_law_1091 (by decide) (fun c9 => absurd c9 (by decide)) (fun _ => ?_)
  refine lv_aload_n hx hb dL_law_1094 rfl (lv_at hl 0 rfl) ?_
  refine lv_iconst (v := 0) hx hb dL_law_1095 (by decide) ?_
  refine lv_bipush (v := (-2)) hx hb dL_law_1096 (by decide) ?_
  refine y_lro (vx_runSW (As := [.ref h, .int 0, .int (-2)]) (rest := []) ⟨hx, hb, hml, hown, hts⟩ (c_rap l hl9 G k h a c σ H1.size 0 (-2) hJ.1 (by decide)) (vx_cwSW 3 hts gL_law_L_ready rfl rfl rfl (by decide +kernel) ⟨Nat.le_of_ble_eq_true rfl, Nat.le_of_ble_eq_true rfl⟩) (yL_pre hS hV hP hK) rfl rfl hl.1 rfl (lv_room (Nat.le_of_ble_eq_true rfl)) dL_law_1098 ⟨show cells + 1 + 1 + 1 + 2 + 2 ≤ 756716 by omega, show slots + 6 + 6 + 6 + 12 + 12 ≤ 6824554 by omega⟩) hS (fun r H1 locs1 hr9 hk9 hS1 => ?_)
  have hP := yKeep hP hk9
  have hS := hS1
  clear hk9 hS1
  subst hr9
  refine y_top (x_rap2 (by decide) (by decide)) ?_
  refine lv_sipush (v := (-1002)) hx hb dL_law_1101 (by decide) ?_
  refine lv_icmp_ne (tgt := 1198) hx hb dL_law_1104 (by decide) (fun c9 => absurd c9 (by decide)) (fun _ => ?_)
  refine lv_aload_n hx hb dL_law_1107 rfl (lv_at hl 0 rfl) ?_
  refine lv_iconst (v := 4) hx hb dL_law_1108 (by decide) ?_
  refine lv_iconst (v := 0) hx hb dL_law_1109 (by decide) ?_
  refine y_lrw (w := WS k h a c σ) (w' := WS k h a c (g_take 4 0 σ)) (vx_runSW (As := [.ref h, .int 4, .int 0]) (rest := []) ⟨hx, hb, hml, hown, hts⟩ (c_take l hl9 G k h a c σ H1.size 4 0 ((hDA σ).weaken (fun _ _ _ _ => trivial)) hJ.1) (vx_cwSW 3 hts gL_law_L_take rfl rfl rfl (by decide +kernel) ⟨Nat.le_of_ble_eq_true rfl, Nat.le_of_ble_eq_true rfl⟩) (yL_pre hS hV hP hK) rfl rfl hl.1 rfl (lv_room (Nat.le_of_ble_eq_true rfl)) dL_law_1110 ⟨show cells + 1 + 1 + 1 + 2 + 2 + 3 ≤ 756716 by omega, show slots + 6 + 6 + 6 + 12 + 12 + 18 ≤ 6824554 by omega⟩) (hDA σ) hS (fun r H1 locs1 hr9 hP1 hS1 => ?_)
  have hP := hP1
  have hS := hS1
  clear hP1 hS1
  have hr9 : r = f_take 4 0 σ := hr9
  subst hr9
  have e9 : g_take 4 0 σ = σ := (x_take (by decide)).2
  rw [e9] at hP
  clear e9
  refine y_top ((x_take (by decide)).1) ?_
  refine lv_sipush (v := (-1001)) hx hb dL_law_1113 (by decide) ?_
  refine lv_icmp_ne (tgt := 1198) hx hb dL_law_1116 (by decide) (fun c9 => absurd c9 (by decide)) (fun _ => ?_)
  refine lv_aload_n hx hb dL_law_1119 rfl (lv_at hl 0 rfl) ?_
  refine lv_iconst (v := 0) hx hb dL_law_1120 (by decide) ?_
  refine lv_iconst (v := 3) hx hb dL_law_1121 (by decide) ?_
  refine y_lrw (w := WS k h a c σ) (w' := WS k h a c (g_take 0 3 σ)) (vx_runSW (As := [.ref h, .int 0, .int 3]) (rest := []) ⟨hx, hb, hml, hown, hts⟩ (c_take l hl9 G k h a c σ H1.size 0 3 ((hDA σ).weaken (fun _ _ _ _ => trivial)) hJ.1) (vx_cwSW 3 hts gL_law_L_take rfl rfl rfl (by decide +kernel) ⟨Nat.le_of_ble_eq_true rfl, Nat.le_of_ble_eq_true rfl⟩) (yL_pre hS hV hP hK) rfl rfl hl.1 rfl (lv_room (Nat.le_of_ble_eq_true rfl)) dL_law_1122 ⟨show cells + 1 + 1 + 1 + 2 + 2 + 3 + 3 ≤ 756716 by omega, show slots + 6 + 6 + 6 + 12 + 12 + 18 + 18 ≤ 6824554 by omega⟩) (hDA σ) hS (fun r H1 locs1 hr9 hP1 hS1 => ?_)
  have hP := hP1
  have hS := hS1
  clear hP1 hS1
  have hr9 : r = f_take 0 3 σ := hr9
  subst hr9
  have e9 : g_take 0 3 σ = σ := (x_take (by decide)).2
  rw [e9] at hP
  clear e9
  refine y_top ((x_take (by decide)).1) ?_
  refine lv_sipush (v := (-1001)) hx hb dL_law_1125 (by decide) ?_
  refine lv_icmp_ne (tgt := 1198) hx hb dL_law_1128 (by decide) (fun c9 => absurd c9 (by decide)) (fun _ => ?_)
  refine lv_aload_n hx hb dL_law_1131 rfl (lv_at hl 0 rfl) ?_
  refine lv_bipush (v := 99) hx hb dL_law_1132 (by decide) ?_
  refine lv_iconst (v := 4) hx hb dL_law_1134 (by decide) ?_
  refine y_lro (vx_runSW (As := [.ref h, .int 99, .int 4]) (rest := []) ⟨hx, hb, hml, hown, hts⟩ (c_has l hl9 G k h a c σ H1.size 4 hJ.1) (vx_cwSW 3 hts gL_law_L_told rfl rfl rfl (by decide +kernel) ⟨Nat.le_of_ble_eq_true rfl, Nat.le_of_ble_eq_true rfl⟩) (yL_pre hS hV hP hK) rfl rfl hl.1 rfl (lv_room (Nat.le_of_ble_eq_true rfl)) dL_law_1135 ⟨show cells + 1 + 1 + 1 + 2 + 2 + 3 + 3 + 1 ≤ 756716 by omega, show slots + 6 + 6 + 6 + 12 + 12 + 18 + 18 + 6 ≤ 6824554 by omega⟩) hS (fun r H1 locs1 hr9 hk9 hS1 => ?_)
  have hP := yKeep hP hk9
  have hS := hS1
  clear hk9 hS1
  subst hr9
  refine y_top (x_has (by decide)) ?_
  refine lv_sipush (v := (-1001)) hx hb dL_law_1138 (by decide) ?_
  refine lv_icmp_ne (tgt := 1198) hx hb dL_law_1141 (by decide) (fun c9 => absurd c9 (by decide)) (fun _ => ?_)
  refine lv_aload_n hx hb dL_law_1144 rfl (lv_at hl 0 rfl) ?_
  refine lv_bipush (v := 99) hx hb dL_law_1145 (by decide) ?_
  refine lv_iconst (v := (-1)) hx hb dL_law_1147 (by decide) ?_
  refine y_lro (vx_runSW (As := [.ref h, .int 99, .int (-1)]) (rest := []) ⟨hx, hb, hml, hown, hts⟩ (c_has l hl9 G k h a c σ H1.size (-1) hJ.1) (vx_cwSW 3 hts gL_law_L_told rfl rfl rfl (by decide +kernel) ⟨Nat.le_of_ble_eq_true rfl, Nat.le_of_ble_eq_true rfl⟩) (yL_pre hS hV hP hK) rfl rfl hl.1 rfl (lv_room (Nat.le_of_ble_eq_true rfl)) dL_law_1148 ⟨show cells + 1 + 1 + 1 + 2 + 2 + 3 + 3 + 1 + 1 ≤ 756716 by omega, show slots + 6 + 6 + 6 + 12 + 12 + 18 + 18 + 6 + 6 ≤ 6824554 by omega⟩) hS (fun r H1 locs1 hr9 hk9 hS1 => ?_)
  have hP := yKeep hP hk9
  have hS := hS1
  clear hk9 hS1
  subst hr9
  refine y_top (x_has (by decide)) ?_
  refine lv_sipush (v := (-1001)) hx hb dL_law_1151 (by decide) ?_
  refine lv_icmp_ne (tgt := 1198) hx hb dL_law_1154 (by decide) (fun c9 => absurd c9 (by decide)) (fun _ => ?_)
  refine lv_aload_n hx hb dL_law_1157 rfl (lv_at hl 0 rfl) ?_
  refine lv_bipush (v := 112) hx hb dL_law_1158 (by decide) ?_
  refine lv_iconst (v := 0) hx hb dL_law_1160 (by decide) ?_
  refine y_lrw (w := WS k h a c σ) (w' := WS k h a c (g_pass 0 σ)) (vx_runSW (As := [.ref h, .int 112, .int 0]) (rest := []) ⟨hx, hb, hml, hown, hts⟩ (c_pass l hl9 G k h a c σ H1.size 0 ((hDA σ).weaken (fun _ _ _ _ => trivial)) hJ.1) (vx_cwSW 3 hts gL_law_L_told rfl rfl rfl (by decide +kernel) ⟨Nat.le_of_ble_eq_true rfl, Nat.le_of_ble_eq_true rfl⟩) (yL_pre hS hV hP hK) rfl rfl hl.1 rfl (lv_room (Nat.le_of_ble_eq_true rfl)) dL_law_1161 ⟨show cells + 1 + 1 + 1 + 2 + 2 + 3 + 3 + 1 + 1 + 1 ≤ 756716 by omega, show slots + 6 + 6 + 6 + 12 + 12 + 18 + 18 + 6 + 6 + 6 ≤ 6824554 by omega⟩) (hDA σ) hS (fun r H1 locs1 hr9 hP1 hS1 => ?_)
  have hP := hP1
  have hS := hS1
  clear hP1 hS1
  have hr9 : r = f_pass 0 σ := hr9
  subst hr9
  have e9 : g_pass 0 σ = σ := (x_pass (by decide)).2
  rw [e9] at hP
  clear e9
  refine y_top ((x_pass (by decide)).1) ?_
  refine lv_sipush (v := (-1001)) hx hb dL_law_1164 (by decide) ?_
  refine lv_icmp_ne (tgt := 1198) hx hb dL_law_1167 (by decide) (fun c9 => absurd c9 (by decide)) (fun _ => ?_)
  refine lv_aload_n hx hb dL_law_1170 rfl (lv_at hl 0 rfl) ?_
  refine lv_bipush (v := 112) hx hb dL_law_1171 (by decide) ?_
  refine lv_bipush (v := 31) hx hb dL_law_1173 (by decide) ?_
  refine y_lrw (w := WS k h a c σ) (w' := WS k h a c (g_pass 31 σ)) (vx_runSW (As := [.ref h, .int 112, .int 31]) (rest := []) ⟨hx, hb, hml, hown, hts⟩ (c_pass l hl9 G k h a c σ H1.size 31 ((hDA σ).weaken (fun _ _ _ _ => trivial)) hJ.1) (vx_cwSW 3 hts gL_law_L_told rfl rfl rfl (by decide +kernel) ⟨Nat.le_of_ble_eq_true rfl, Nat.le_of_ble_eq_true rfl⟩) (yL_pre hS hV hP hK) rfl rfl hl.1 rfl (lv_room (Nat.le_of_ble_eq_true rfl)) dL_law_1175 ⟨show cells + 1 + 1 + 1 + 2 + 2 + 3 + 3 + 1 + 1 + 1 + 1 ≤ 756716 by omega, show slots + 6 + 6 + 6 + 12 + 12 + 18 + 18 + 6 + 6 + 6 + 6 ≤ 6824554 by omega⟩) (hDA σ) hS (fun r H1 locs1 hr9 hP1 hS1 => ?_)
  have hP := hP1
  have hS := hS1
  clear hP1 hS1
  have hr9 : r = f_pass 31 σ := hr9
  subst hr9
  have e9 : g_pass 31 σ = σ := (x_pass (by decide)).2
  rw [e9] at hP
  clear e9
  refine y_top ((x_pass (by decide)).1) ?_
  refine lv_sipush (v := (-1001)) hx hb dL_law_1178 (by decide) ?_
  refine lv_icmp_ne (tgt := 1198) hx hb dL_law_1181 (by decide) (fun c9 => absurd c9 (by decide)) (fun _ => ?_)
  refine lv_aload_n hx hb dL_law_1184 rfl (lv_at hl 0 rfl) ?_
  refine lv_bipush (v := 115) hx hb dL_law_1185 (by decide) ?_
  refine lv_bipush (v := 122) hx hb dL_law_1187 (by decide) ?_
  refine y_lro (vx_runSW (As := [.ref h, .int 115, .int 122]) (rest := []) ⟨hx, hb, hml, hown, hts⟩ (c_cnt l hl9 G k h a c σ H1.size 122 hJ.1 (by decide)) (vx_cwSW 3 hts gL_law_L_told rfl rfl rfl (by decide +kernel) ⟨Nat.le_of_ble_eq_true rfl, Nat.le_of_ble_eq_true rfl⟩) (yL_pre hS hV hP hK) rfl rfl hl.1 rfl (lv_room (Nat.le_of_ble_eq_true rfl)) dL_law_1189 ⟨show cells + 1 + 1 + 1 + 2 + 2 + 3 + 3 + 1 + 1 + 1 + 1 + 1 ≤ 756716 by omega, show slots + 6 + 6 + 6 + 12 + 12 + 18 + 18 + 6 + 6 + 6 + 6 + 6 ≤ 6824554 by omega⟩) hS (fun r H1 locs1 hr9 hk9 hS1 => ?_)
  have hP := yKeep hP hk9
  have hS := hS1
  clear hk9 hS1
  subst hr9
  refine y_top (x_cnt (by decide)) ?_
  refine lv_sipush (v := (-1001)) hx hb dL_law_1192 (by decide) ?_
  refine lv_icmp_eq (tgt := 1200) hx hb dL_law_1195 (by decide) (fun _ => ?_) (fun c9 => absurd c9 (by decide))
  exact law_end3 F9 hJ hP hS (by omega) (by omega) (lv_sub hl [0, 1, 2, 3] rfl)

set_option maxHeartbeats 8000000 in
set_option maxRecDepth 100000 in
theorem law_end1 {p : Program} {l : Launch} {e : Env} {s : State} {m : MethodId} {below : List Frame} {meth : Method} {c_ : Code} {b L : Nat} {xs : Nat → Int32} {G : va_G} {k : Nat → ClassId} {h : Nat} {a c : Nat → Nat} (F : LF p l s m meth c_ b L xs G k h a c) {σ : SX} (hJ : yJs σ) {H : Heap} {locs : List Loc} {cells slots : Nat} {ls : Array Slot} (hP : va_P G vwCl (WS k h a c σ) H) (hS : yO s H locs) (hb1 : cells + 900 ≤ 756716) (hb2 : slots + 5400 ≤ 6824554) (hl : lv_has ls 16 [(1, .ref h), (3, .long (f_sum σ)), (5, .int (nI σ.2.1)), (6, .int (nI σ.2.2.2.2.1))]) : W p l e room_1 s m #[Value.ref b] below meth c_ H locs cells slots (lw_Z below #[Value.ref b] s) (F0 m 884 ls []) := by
  have F9 := F
  obtain ⟨hx, hb, hr, hml, hown, hts, hX, hbl, hL, hK, hV, hl9, hlocks, hDA⟩ := F
  have hn0 : σ.2.1 ≤ 8 := J_n0 hJ
  have hn1 : σ.2.2.2.2.1 ≤ 80 := J_n1 hJ
  refine lv_aload_n hx hb dL_law_884 rfl (lv_at hl 0 rfl) ?_
  refine lv_iconst (v := 2) hx hb dL_law_885 (by decide) ?_
  refine va_newa (atype := .int) (n := 2) (N' := 2) (a0 := (2, .inl (fun _ => 0))) hx hb (hts (.arrayClass .int) (by decide +kernel)) rfl hK hP (hDA σ) hS (fun _ h9 => h9) (fun _ => rfl) (by decide) rfl (by decide) (show cells + 1 ≤ 756716 by omega) (show slots + 2 ≤ 6824554 by omega) dL_law_886 (fun q0 cN H1 hK1 hPa hDa hS1 => ?_)
  obtain rfl : k 0 = cN := ySame hK1 (j := 3) (i := 0) (ty := .int) rfl rfl rfl
  have hPa : va_P G vwCl ((q0, .inl (k 0, 2, .inl (fun _ => 0))) :: WS k h a c σ) H1 := hPa.sub [20, 0, 1, 2, 3, 4, 5, 6, 7, 8, 9, 10, 11, 12, 13, 14, 15, 16, 17, 18, 19] rfl
  have hDa : va_D (fun q : Nat => s.heap.size ≤ q) ((q0, .inl (k 0, 2, .inl (fun _ => 0))) :: WS k h a c σ) := hDa.sub [20, 0, 1, 2, 3, 4, 5, 6, 7, 8, 9, 10, 11, 12, 13, 14, 15, 16, 17, 18, 19] (by decide) rfl
  have hS := hS1
  clear hS1 hP hK1
  refine lv_dup hx hb dL_law_888 rfl ?_
  refine lv_iconst (v := 0) hx hb dL_law_889 (by decide) ?_
  refine lv_iconst (v := 3) hx hb dL_law_890 (by decide) ?_
  refine y_iast (ws' := (q0, .inl (k 0, 2, .inl (upd (fun _ => (0 : Int32)) 0 3))) :: WS k h a c σ) (j := 0) (x := 3) hx hb hK hPa hDa hS 0 0 rfl rfl (by decide) (by decide) rfl dL_law_891 (fun H1 locs1 hPa hDa hS => ?_)
  refine lv_dup hx hb dL_law_892 rfl ?_
  refine lv_iconst (v := 1) hx hb dL_law_893 (by decide) ?_
  refine lv_iconst (v := 0) hx hb dL_law_894 (by decide) ?_
  refine y_iast (ws' := (q0, .inl (k 0, 2, .inl (upd (upd (fun _ => (0 : Int32)) 0 3) 1 0))) :: WS k h a c σ) (j := 1) (x := 0) hx hb hK hPa hDa hS 0 0 rfl rfl (by decide) (by decide) rfl dL_law_895 (fun H1 locs1 hPa hDa hS => ?_)
  refine lv_bipush (v := 112) hx hb dL_law_896 (by decide) ?_
  refine lv_iconst (v := 0) hx hb dL_law_898 (by decide) ?_
  refine lv_iconst (v := 0) hx hb dL_law_899 (by decide) ?_
  refine lv_iconst (v := 0) hx hb dL_law_900 (by decide) ?_
  refine y_lrw (w := WS k h a c σ) (w' := WS k h a c (g_post 3 0 112 0 0 0 σ)) (vx_runSW (As := [.ref h, .ref q0, .int 112, .int 0, .int 0, .int 0]) (rest := []) ⟨hx, hb, hml, hown, hts⟩ (c_post l hl9 G k h a c σ q0 (upd (upd (fun _ => (0 : Int32)) 0 3) 1 0) H1.size 112 0 0 0 ((hDA σ).weaken (fun _ _ _ _ => trivial)) hJ.1) (vx_cwSW 6 hts gL_law_L_post rfl rfl rfl (by decide +kernel) ⟨Nat.le_of_ble_eq_true rfl, Nat.le_of_ble_eq_true rfl⟩) (yL_pre hS hV hPa hK) rfl rfl hl.1 rfl (lv_room (Nat.le_of_ble_eq_true rfl)) dL_law_901 ⟨show cells + 1 + 2 ≤ 756716 by omega, show slots + 2 + 12 ≤ 6824554 by omega⟩) (hDA σ) hS (fun r H1 locs1 hr9 hP1 hS1 => ?_)
  have hP := hP1
  have hS := hS1
  clear hP1 hS1 hPa hDa
  have hr9 : r = f_post 3 0 112 0 0 0 σ := hr9
  subst hr9
  have e9 : g_post 3 0 112 0 0 0 σ = σ := (x_post (by decide)).2
  rw [e9] at hP
  clear e9
  refine y_top ((x_post (by decide)).1) ?_
  refine lv_sipush (v := (-1001)) hx hb dL_law_904 (by decide) ?_
  refine lv_icmp_ne (tgt := 1198) hx hb dL_law_907 (by decide) (fun c9 => absurd c9 (by decide)) (fun _ => ?_)
  refine lv_aload_n hx hb dL_law_910 rfl (lv_at hl 0 rfl) ?_
  refine lv_iconst (v := 2) hx hb dL_law_911 (by decide) ?_
  refine va_newa (atype := .int) (n := 2) (N' := 2) (a0 := (2, .inl (fun _ => 0))) hx hb (hts (.arrayClass .int) (by decide +kernel)) rfl hK hP (hDA σ) hS (fun _ h9 => h9) (fun _ => rfl) (by decide) rfl (by decide) (show cells + 1 + 2 + 1 ≤ 756716 by omega) (show slots + 2 + 12 + 2 ≤ 6824554 by omega) dL_law_912 (fun q0 cN H1 hK1 hPa hDa hS1 => ?_)
  obtain rfl : k 0 = cN := ySame hK1 (j := 3) (i := 0) (ty := .int) rfl rfl rfl
  have hPa : va_P G vwCl ((q0, .inl (k 0, 2, .inl (fun _ => 0))) :: WS k h a c σ) H1 := hPa.sub [20, 0, 1, 2, 3, 4, 5, 6, 7, 8, 9, 10, 11, 12, 13, 14, 15, 16, 17, 18, 19] rfl
  have hDa : va_D (fun q : Nat => s.heap.size ≤ q) ((q0, .inl (k 0, 2, .inl (fun _ => 0))) :: WS k h a c σ) := hDa.sub [20, 0, 1, 2, 3, 4, 5, 6, 7, 8, 9, 10, 11, 12, 13, 14, 15, 16, 17, 18, 19] (by decide) rfl
  have hS := hS1
  clear hS1 hP hK1
  refine lv_dup hx hb dL_law_914 rfl ?_
  refine lv_iconst (v := 0) hx hb dL_law_915 (by decide) ?_
  refine lv_iconst (v := 0) hx hb dL_law_916 (by decide) ?_
  refine y_iast (ws' := (q0, .inl (k 0, 2, .inl (upd (fun _ => (0 : Int32)) 0 0))) :: WS k h a c σ) (j := 0) (x := 0) hx hb hK hPa hDa hS 0 0 rfl rfl (by decide) (by decide) rfl dL_law_917 (fun H1 locs1 hPa hDa hS => ?_)
  refine lv_dup hx hb dL_law_918 rfl ?_
  refine lv_iconst (v := 1) hx hb dL_law_919 (by decide) ?_
  refine lv_sipush (v := 1000) hx hb dL_law_920 (by decide) ?_
  refine y_iast (ws' := (q0, .inl (k 0, 2, .inl (upd (upd (fun _ => (0 : Int32)) 0 0) 1 1000))) :: WS k h a c σ) (j := 1) (x := 1000) hx hb hK hPa hDa hS 0 0 rfl rfl (by decide) (by decide) rfl dL_law_923 (fun H1 locs1 hPa hDa hS => ?_)
  refine lv_bipush (v := 112) hx hb dL_law_924 (by decide) ?_
  refine lv_iconst (v := 0) hx hb dL_law_926 (by decide) ?_
  refine lv_iconst (v := 0) hx hb dL_law_927 (by decide) ?_
  refine lv_iconst (v := 0) hx hb dL_law_928 (by decide) ?_
  refine y_lrw (w := WS k h a c σ) (w' := WS k h a c (g_post 0 1000 112 0 0 0 σ)) (vx_runSW (As := [.ref h, .ref q0, .int 112, .int 0, .int 0, .int 0]) (rest := []) ⟨hx, hb, hml, hown, hts⟩ (c_post l hl9 G k h a c σ q0 (upd (upd (fun _ => (0 : Int32)) 0 0) 1 1000) H1.size 112 0 0 0 ((hDA σ).weaken (fun _ _ _ _ => trivial)) hJ.1) (vx_cwSW 6 hts gL_law_L_post rfl rfl rfl (by decide +kernel) ⟨Nat.le_of_ble_eq_true rfl, Nat.le_of_ble_eq_true rfl⟩) (yL_pre hS hV hPa hK) rfl rfl hl.1 rfl (lv_room (Nat.le_of_ble_eq_true rfl)) dL_law_929 ⟨show cells + 1 + 2 + 1 + 2 ≤ 756716 by omega, show slots + 2 + 12 + 2 + 12 ≤ 6824554 by omega⟩) (hDA σ) hS (fun r H1 locs1 hr9 hP1 hS1 => ?_)
  have hP := hP1
  have hS := hS1
  clear hP1 hS1 hPa hDa
  have hr9 : r = f_post 0 1000 112 0 0 0 σ := hr9
  subst hr9
  have e9 : g_post 0 1000 112 0 0 0 σ = σ := (x_post (by decide)).2
  rw [e9] at hP
  clear e9
  refine y_top ((x_post (by decide)).1) ?_
  refine lv_sipush (v := (-1001)) hx hb dL_law_932 (by decide) ?_
  refine lv_icmp_ne (tgt := 1198) hx hb dL_law_935 (by decide) (fun c9 => absurd c9 (by decide)) (fun _ => ?_)
  refine lv_aload_n hx hb dL_law_938 rfl (lv_at hl 0 rfl) ?_
  refine lv_iconst (v := 2) hx hb dL_law_939 (by decide) ?_
  refine va_newa (atype := .int) (n := 2) (N' := 2) (a0 := (2, .inl (fun _ => 0))) hx hb (hts (.arrayClass .int) (by decide +kernel)) rfl hK hP (hDA σ) hS (fun _ h9 => h9) (fun _ => rfl) (by decide) rfl (by decide) (show cells + 1 + 2 + 1 + 2 + 1 ≤ 756716 by omega) (show slots + 2 + 12 + 2 + 12 + 2 ≤ 6824554 by omega) dL_law_940 (fun q0 cN H1 hK1 hPa hDa hS1 => ?_)
  obtain rfl : k 0 = cN := ySame hK1 (j := 3) (i := 0) (ty := .int) rfl rfl rfl
  have hPa : va_P G vwCl ((q0, .inl (k 0, 2, .inl (fun _ => 0))) :: WS k h a c σ) H1 := hPa.sub [20, 0, 1, 2, 3, 4, 5, 6, 7, 8, 9, 10, 11, 12, 13, 14, 15, 16, 17, 18, 19] rfl
  have hDa : va_D (fun q : Nat => s.heap.size ≤ q) ((q0, .inl (k 0, 2, .inl (fun _ => 0))) :: WS k h a c σ) := hDa.sub [20, 0, 1, 2, 3, 4, 5, 6, 7, 8, 9, 10, 11, 12, 13, 14, 15, 16, 17, 18, 19] (by decide) rfl
  have hS := hS1
  clear hS1 hP hK1
  refine lv_dup hx hb dL_law_942 rfl ?_
  refine lv_iconst (v := 0) hx hb dL_law_943 (by decide) ?_
  refine lv_iconst (v := 0) hx hb dL_law_944 (by decide) ?_
  refine y_iast (ws' := (q0, .inl (k 0, 2, .inl (upd (fun _ => (0 : Int32)) 0 0))) :: WS k h a c σ) (j := 0) (x := 0) hx hb hK hPa hDa hS 0 0 rfl rfl (by decide) (by decide) rfl dL_law_945 (fun H1 locs1 hPa hDa hS => ?_)
  refine lv_dup hx hb dL_law_946 rfl ?_
  refine lv_iconst (v := 1) hx hb dL_law_947 (by decide) ?_
  refine lv_iconst (v := 0) hx hb dL_law_948 (by decide) ?_
  refine y_iast (ws' := (q0, .inl (k 0, 2, .inl (upd (upd (fun _ => (0 : Int32)) 0 0) 1 0))) :: WS k h a c σ) (j := 1) (x := 0) hx hb hK hPa hDa hS 0 0 rfl rfl (by decide) (by decide) rfl dL_law_949 (fun H1 locs1 hPa hDa hS => ?_)
  refine lv_bipush (v := 114) hx hb dL_law_950 (by decide) ?_
  refine lv_iconst (v := 0) hx hb dL_law_952 (by decide) ?_
  refine lv_iconst (v := 0) hx hb dL_law_953 (by decide) ?_
  refine lv_iconst (v := 0) hx hb dL_law_954 (by decide) ?_
  refine y_lrw (w := WS k h a c σ) (w' := WS k h a c (g_post 0 0 114 0 0 0 σ)) (vx_runSW (As := [.ref h, .ref q0, .int 114, .int 0, .int 0, .int 0]) (rest := []) ⟨hx, hb, hml, hown, hts⟩ (c_post l hl9 G k h a c σ q0 (upd (upd (fun _ => (0 : Int32)) 0 0) 1 0) H1.size 114 0 0 0 ((hDA σ).weaken (fun _ _ _ _ => trivial)) hJ.1) (vx_cwSW 6 hts gL_law_L_post rfl rfl rfl (by decide +kernel) ⟨Nat.le_of_ble_eq_true rfl, Nat.le_of_ble_eq_true rfl⟩) (yL_pre hS hV hPa hK) rfl rfl hl.1 rfl (lv_room (Nat.le_of_ble_eq_true rfl)) dL_law_955 ⟨show cells + 1 + 2 + 1 + 2 + 1 + 2 ≤ 756716 by omega, show slots + 2 + 12 + 2 + 12 + 2 + 12 ≤ 6824554 by omega⟩) (hDA σ) hS (fun r H1 locs1 hr9 hP1 hS1 => ?_)
  have hP := hP1
  have hS := hS1
  clear hP1 hS1 hPa hDa
  have hr9 : r = f_post 0 0 114 0 0 0 σ := hr9
  subst hr9
  have e9 : g_post 0 0 114 0 0 0 σ = σ := (x_post (by decide)).2
  rw [e9] at hP
  clear e9
  refine y_top ((x_post (by decide)).1) ?_
  refine lv_sipush (v := (-1001)) hx hb dL_law_958 (by decide) ?_
  refine lv_icmp_ne (tgt := 1198) hx hb dL_law_961 (by decide) (fun c9 => absurd c9 (by decide)) (fun _ => ?_)
  refine lv_aload_n hx hb dL_law_964 rfl (lv_at hl 0 rfl) ?_
  refine lv_iconst (v := 2) hx hb dL_law_965 (by decide) ?_
  refine va_newa (atype := .int) (n := 2) (N' := 2) (a0 := (2, .inl (fun _ => 0))) hx hb (hts (.arrayClass .int) (by decide +kernel)) rfl hK hP (hDA σ) hS (fun _ h9 => h9) (fun _ => rfl) (by decide) rfl (by decide) (show cells + 1 + 2 + 1 + 2 + 1 + 2 + 1 ≤ 756716 by omega) (show slots + 2 + 12 + 2 + 12 + 2 + 12 + 2 ≤ 6824554 by omega) dL_law_966 (fun q0 cN H1 hK1 hPa hDa hS1 => ?_)
  obtain rfl : k 0 = cN := ySame hK1 (j := 3) (i := 0) (ty := .int) rfl rfl rfl
  have hPa : va_P G vwCl ((q0, .inl (k 0, 2, .inl (fun _ => 0))) :: WS k h a c σ) H1 := hPa.sub [20, 0, 1, 2, 3, 4, 5, 6, 7, 8, 9, 10, 11, 12, 13, 14, 15, 16, 17, 18, 19] rfl
  have hDa : va_D (fun q : Nat => s.heap.size ≤ q) ((q0, .inl (k 0, 2, .inl (fun _ => 0))) :: WS k h a c σ) := hDa.sub [20, 0, 1, 2, 3, 4, 5, 6, 7, 8, 9, 10, 11, 12, 13, 14, 15, 16, 17, 18, 19] (by decide) rfl
  have hS := hS1
  clear hS1 hP hK1
  refine lv_dup hx hb dL_law_968 rfl ?_
  refine lv_iconst (v := 0) hx hb dL_law_969 (by decide) ?_
  refine lv_iconst (v := 0) hx hb dL_law_970 (by decide) ?_
  refine y_iast (ws' := (q0, .inl (k 0, 2, .inl (upd (fun _ => (0 : Int32)) 0 0))) :: WS k h a c σ) (j := 0) (x := 0) hx hb hK hPa hDa hS 0 0 rfl rfl (by decide) (by decide) rfl dL_law_971 (fun H1 locs1 hPa hDa hS => ?_)
  refine lv_dup hx hb dL_law_972 rfl ?_
  refine lv_iconst (v := 1) hx hb dL_law_973 (by decide) ?_
  refine lv_iconst (v := 0) hx hb dL_law_974 (by decide) ?_
  refine y_iast (ws' := (q0, .inl (k 0, 2, .inl (upd (upd (fun _ => (0 : Int32)) 0 0) 1 0))) :: WS k h a c σ) (j := 1) (x := 0) hx hb hK hPa hDa hS 0 0 rfl rfl (by decide) (by decide) rfl dL_law_975 (fun H1 locs1 hPa hDa hS => ?_)
  refine lv_bipush (v := 112) hx hb dL_law_976 (by decide) ?_
  refine lv_bipush (v := 8) hx hb dL_law_978 (by decide) ?_
  refine lv_iconst (v := 0) hx hb dL_law_980 (by decide) ?_
  refine lv_iconst (v := 0) hx hb dL_law_981 (by decide) ?_
  refine y_lrw (w := WS k h a c σ) (w' := WS k h a c (g_post 0 0 112 8 0 0 σ)) (vx_runSW (As := [.ref h, .ref q0, .int 112, .int 8, .int 0, .int 0]) (rest := []) ⟨hx, hb, hml, hown, hts⟩ (c_post l hl9 G k h a c σ q0 (upd (upd (fun _ => (0 : Int32)) 0 0) 1 0) H1.size 112 8 0 0 ((hDA σ).weaken (fun _ _ _ _ => trivial)) hJ.1) (vx_cwSW 6 hts gL_law_L_post rfl rfl rfl (by decide +kernel) ⟨Nat.le_of_ble_eq_true rfl, Nat.le_of_ble_eq_true rfl⟩) (yL_pre hS hV hPa hK) rfl rfl hl.1 rfl (lv_room (Nat.le_of_ble_eq_true rfl)) dL_law_982 ⟨show cells + 1 + 2 + 1 + 2 + 1 + 2 + 1 + 2 ≤ 756716 by omega, show slots + 2 + 12 + 2 + 12 + 2 + 12 + 2 + 12 ≤ 6824554 by omega⟩) (hDA σ) hS (fun r H1 locs1 hr9 hP1 hS1 => ?_)
  have hP := hP1
  have hS := hS1
  clear hP1 hS1 hPa hDa
  have hr9 : r = f_post 0 0 112 8 0 0 σ := hr9
  subst hr9
  have e9 : g_post 0 0 112 8 0 0 σ = σ := (x_post (by decide)).2
  rw [e9] at hP
  clear e9
  refine y_top ((x_post (by decide)).1) ?_
  refine lv_sipush (v := (-1001)) hx hb dL_law_985 (by decide) ?_
  refine lv_icmp_ne (tgt := 1198) hx hb dL_law_988 (by decide) (fun c9 => absurd c9 (by decide)) (fun _ => ?_)
  refine lv_aload_n hx hb dL_law_991 rfl (lv_at hl 0 rfl) ?_
  refine lv_iconst (v := 2) hx hb dL_law_992 (by decide) ?_
  refine va_newa (atype := .int) (n := 2) (N' := 2) (a0 := (2, .inl (fun _ => 0))) hx hb (hts (.arrayClass .int) (by decide +kernel)) rfl hK hP (hDA σ) hS (fun _ h9 => h9) (fun _ => rfl) (by decide) rfl (by decide) (show cells + 1 + 2 + 1 + 2 + 1 + 2 + 1 + 2 + 1 ≤ 756716 by omega) (show slots + 2 + 12 + 2 + 12 + 2 + 12 + 2 + 12 + 2 ≤ 6824554 by omega) dL_law_993 (fun q0 cN H1 hK1 hPa hDa hS1 => ?_)
  obtain rfl : k 0 = cN := ySame hK1 (j := 3) (i := 0) (ty := .int) rfl rfl rfl
  have hPa : va_P G vwCl ((q0, .inl (k 0, 2, .inl (fun _ => 0))) :: WS k h a c σ) H1 := hPa.sub [20, 0, 1, 2, 3, 4, 5, 6, 7, 8, 9, 10, 11, 12, 13, 14, 15, 16, 17, 18, 19] rfl
  have hDa : va_D (fun q : Nat => s.heap.size ≤ q) ((q0, .inl (k 0, 2, .inl (fun _ => 0))) :: WS k h a c σ) := hDa.sub [20, 0, 1, 2, 3, 4, 5, 6, 7, 8, 9, 10, 11, 12, 13, 14, 15, 16, 17, 18, 19] (by decide) rfl
  have hS := hS1
  clear hS1 hP hK1
  refine lv_dup hx hb dL_law_995 rfl ?_
  refine lv_iconst (v := 0) hx hb dL_law_996 (by decide) ?_
  refine lv_iconst (v := 0) hx hb dL_law_997 (by decide) ?_
  refine y_iast (ws' := (q0, .inl (k 0, 2, .inl (upd (fun _ => (0 : Int32)) 0 0))) :: WS k h a c σ) (j := 0) (x := 0) hx hb hK hPa hDa hS 0 0 rfl rfl (by decide) (by decide) rfl dL_law_998 (fun H1 locs1 hPa hDa hS => ?_)
  refine lv_dup hx hb dL_law_999 rfl ?_
  refine lv_iconst (v := 1) hx hb dL_law_1000 (by decide) ?_
  refine lv_iconst (v := 0) hx hb dL_law_1001 (by decide) ?_
  refine y_iast (ws' := (q0, .inl (k 0, 2, .inl (upd (upd (fun _ => (0 : Int32)) 0 0) 1 0))) :: WS k h a c σ) (j := 1) (x := 0) hx hb hK hPa hDa hS 0 0 rfl rfl (by decide) (by decide) rfl dL_law_1002 (fun H1 locs1 hPa hDa hS => ?_)
  refine lv_bipush (v := 112) hx hb dL_law_1003 (by decide) ?_
  refine lv_iconst (v := 0) hx hb dL_law_1005 (by decide) ?_
  refine lv_sipush (v := 10000) hx hb dL_law_1006 (by decide) ?_
  refine lv_iconst (v := 0) hx hb dL_law_1009 (by decide) ?_
  refine y_lrw (w := WS k h a c σ) (w' := WS k h a c (g_post 0 0 112 0 10000 0 σ)) (vx_runSW (As := [.ref h, .ref q0, .int 112, .int 0, .int 10000, .int 0]) (rest := []) ⟨hx, hb, hml, hown, hts⟩ (c_post l hl9 G k h a c σ q0 (upd (upd (fun _ => (0 : Int32)) 0 0) 1 0) H1.size 112 0 10000 0 ((hDA σ).weaken (fun _ _ _ _ => trivial)) hJ.1) (vx_cwSW 6 hts gL_law_L_post rfl rfl rfl (by decide +kernel) ⟨Nat.le_of_ble_eq_true rfl, Nat.le_of_ble_eq_true rfl⟩) (yL_pre hS hV hPa hK) rfl rfl hl.1 rfl (lv_room (Nat.le_of_ble_eq_true rfl)) dL_law_1010 ⟨show cells + 1 + 2 + 1 + 2 + 1 + 2 + 1 + 2 + 1 + 2 ≤ 756716 by omega, show slots + 2 + 12 + 2 + 12 + 2 + 12 + 2 + 12 + 2 + 12 ≤ 6824554 by omega⟩) (hDA σ) hS (fun r H1 locs1 hr9 hP1 hS1 => ?_)
  have hP := hP1
  have hS := hS1
  clear hP1 hS1 hPa hDa
  have hr9 : r = f_post 0 0 112 0 10000 0 σ := hr9
  subst hr9
  have e9 : g_post 0 0 112 0 10000 0 σ = σ := (x_post (by decide)).2
  rw [e9] at hP
  clear e9
  refine y_top ((x_post (by decide)).1) ?_
  refine lv_sipush (v := (-1001)) hx hb dL_law_1013 (by decide) ?_
  refine lv_icmp_ne (tgt := 1198) hx hb dL_law_1016 (by decide) (fun c9 => absurd c9 (by decide)) (fun _ => ?_)
  refine lv_aload_n hx hb dL_law_1019 rfl (lv_at hl 0 rfl) ?_
  refine lv_iconst (v := 2) hx hb dL_law_1020 (by decide) ?_
  refine va_newa (atype := .int) (n := 2) (N' := 2) (a0 := (2, .inl (fun _ => 0))) hx hb (hts (.arrayClass .int) (by decide +kernel)) rfl hK hP (hDA σ) hS (fun _ h9 => h9) (fun _ => rfl) (by decide) rfl (by decide) (show cells + 1 + 2 + 1 + 2 + 1 + 2 + 1 + 2 + 1 + 2 + 1 ≤ 756716 by omega) (show slots + 2 + 12 + 2 + 12 + 2 + 12 + 2 + 12 + 2 + 12 + 2 ≤ 6824554 by omega) dL_law_1021 (fun q0 cN H1 hK1 hPa hDa hS1 => ?_)
  obtain rfl : k 0 = cN := ySame hK1 (j := 3) (i := 0) (ty := .int) rfl rfl rfl
  have hPa : va_P G vwCl ((q0, .inl (k 0, 2, .inl (fun _ => 0))) :: WS k h a c σ) H1 := hPa.sub [20, 0, 1, 2, 3, 4, 5, 6, 7, 8, 9, 10, 11, 12, 13, 14, 15, 16, 17, 18, 19] rfl
  have hDa : va_D (fun q : Nat => s.heap.size ≤ q) ((q0, .inl (k 0, 2, .inl (fun _ => 0))) :: WS k h a c σ) := hDa.sub [20, 0, 1, 2, 3, 4, 5, 6, 7, 8, 9, 10, 11, 12, 13, 14, 15, 16, 17, 18, 19] (by decide) rfl
  have hS := hS1
  clear hS1 hP hK1
  refine lv_dup hx hb dL_law_1023 rfl ?_
  refine lv_iconst (v := 0) hx hb dL_law_1024 (by decide) ?_
  refine lv_iconst (v := 0) hx hb dL_law_1025 (by decide) ?_
  refine y_iast (ws' := (q0, .inl (k 0, 2, .inl (upd (fun _ => (0 : Int32)) 0 0))) :: WS k h a c σ) (j := 0) (x := 0) hx hb hK hPa hDa hS 0 0 rfl rfl (by decide) (by decide) rfl dL_law_1026 (fun H1 locs1 hPa hDa hS => ?_)
  refine lv_dup hx hb dL_law_1027 rfl ?_
  refine lv_iconst (v := 1) hx hb dL_law_1028 (by decide) ?_
  refine lv_iconst (v := 0) hx hb dL_law_1029 (by decide) ?_
  refine y_iast (ws' := (q0, .inl (k 0, 2, .inl (upd (upd (fun _ => (0 : Int32)) 0 0) 1 0))) :: WS k h a c σ) (j := 1) (x := 0) hx hb hK hPa hDa hS 0 0 rfl rfl (by decide) (by decide) rfl dL_law_1030 (fun H1 locs1 hPa hDa hS => ?_)
  refine lv_bipush (v := 110) hx hb dL_law_1031 (by decide) ?_
  refine lv_iconst (v := 0) hx hb dL_law_1033 (by decide) ?_
  refine lv_iconst (v := 0) hx hb dL_law_1034 (by decide) ?_
  refine lv_bipush (v := 31) hx hb dL_law_1035 (by decide) ?_
  refine y_lrw (w := WS k h a c σ) (w' := WS k h a c (g_post 0 0 110 0 0 31 σ)) (vx_runSW (As := [.ref h, .ref q0, .int 110, .int 0, .int 0, .int 31]) (rest := []) ⟨hx, hb, hml, hown, hts⟩ (c_post l hl9 G k h a c σ q0 (upd (upd (fun _ => (0 : Int32)) 0 0) 1 0) H1.size 110 0 0 31 ((hDA σ).weaken (fun _ _ _ _ => trivial)) hJ.1) (vx_cwSW 6 hts gL_law_L_post rfl rfl rfl (by decide +kernel) ⟨Nat.le_of_ble_eq_true rfl, Nat.le_of_ble_eq_true rfl⟩) (yL_pre hS hV hPa hK) rfl rfl hl.1 rfl (lv_room (Nat.le_of_ble_eq_true rfl)) dL_law_1037 ⟨show cells + 1 + 2 + 1 + 2 + 1 + 2 + 1 + 2 + 1 + 2 + 1 + 2 ≤ 756716 by omega, show slots + 2 + 12 + 2 + 12 + 2 + 12 + 2 + 12 + 2 + 12 + 2 + 12 ≤ 6824554 by omega⟩) (hDA σ) hS (fun r H1 locs1 hr9 hP1 hS1 => ?_)
  have hP := hP1
  have hS := hS1
  clear hP1 hS1 hPa hDa
  have hr9 : r = f_post 0 0 110 0 0 31 σ := hr9
  subst hr9
  have e9 : g_post 0 0 110 0 0 31 σ = σ := (x_post (by decide)).2
  rw [e9] at hP
  clear e9
  refine y_top ((x_post (by decide)).1) ?_
  refine lv_sipush (v := (-1001)) hx hb dL_law_1040 (by decide) ?_
  refine lv_icmp_ne (tgt := 1198) hx hb dL_law_1043 (by decide) (fun c9 => absurd c9 (by decide)) (fun _ => ?_)
  exact law_end2 F9 hJ hP hS (by omega) (by omega) (lv_sub hl [0, 1, 2, 3] rfl)

set_option maxHeartbeats 8000000 in
set_option maxRecDepth 100000 in
theorem law_end0 {p : Program} {l : Launch} {e : Env} {s : State} {m : MethodId} {below : List Frame} {meth : Method} {c_ : Code} {b L : Nat} {xs : Nat → Int32} {G : va_G} {k : Nat → ClassId} {h : Nat} {a c : Nat → Nat} (F : LF p l s m meth c_ b L xs G k h a c) {σ : SX} (hJ : yJs σ) {H : Heap} {locs : List Loc} {cells slots : Nat} {ls : Array Slot} (hP : va_P G vwCl (WS k h a c σ) H) (hS : yO s H locs) (hb1 : cells + 5300 ≤ 756716) (hb2 : slots + 31800 ≤ 6824554) (hl : lv_has ls 16 [(1, .ref h)]) : W p l e room_1 s m #[Value.ref b] below meth c_ H locs cells slots (lw_Z below #[Value.ref b] s) (F0 m 770 ls []) := by
  have F9 := F
  obtain ⟨hx, hb, hr, hml, hown, hts, hX, hbl, hL, hK, hV, hl9, hlocks, hDA⟩ := F
  have hn0 : σ.2.1 ≤ 8 := J_n0 hJ
  have hn1 : σ.2.2.2.2.1 ≤ 80 := J_n1 hJ
  refine lv_aload_n hx hb dL_law_770 rfl (lv_at hl 0 rfl) ?_
  refine y_lro (va_runS (As := [.ref h]) (rest := []) ⟨hx, hb, hml, hown, hts⟩ (c_isSound l hl9 G k h a c σ H.size hJ) (va_cwS 1 hts gL_law_L_isSound rfl rfl rfl (by decide +kernel) ⟨Nat.le_of_ble_eq_true rfl, Nat.le_of_ble_eq_true rfl⟩) (yL_pre hS hV hP hK) rfl rfl hl.1 rfl (lv_room (Nat.le_of_ble_eq_true rfl)) dL_law_771 ⟨show cells + 3600 ≤ 756716 by omega, show slots + 21600 ≤ 6824554 by omega⟩) hS (fun r H1 locs1 hr9 hk9 hS1 => ?_)
  have hP := yKeep hP hk9
  have hS := hS1
  clear hk9 hS1
  subst hr9
  refine lv_if_ne (tgt := 779) hx hb dL_law_774 (by decide) (fun _ => ?_) (fun c9 => absurd c9 (by decide))
  refine lv_aload_n hx hb dL_law_779 rfl (lv_at hl 0 rfl) ?_
  refine y_lroL (va_runS (As := [.ref h]) (rest := []) ⟨hx, hb, hml, hown, hts⟩ (c_sum l hl9 G k h a c σ H1.size hJ) (va_cwS 1 hts gL_law_L_sum rfl rfl rfl (by decide +kernel) ⟨Nat.le_of_ble_eq_true rfl, Nat.le_of_ble_eq_true rfl⟩) (yL_pre hS hV hP hK) rfl rfl hl.1 rfl (lv_room (Nat.le_of_ble_eq_true rfl)) dL_law_780 ⟨show cells + 3600 + 600 ≤ 756716 by omega, show slots + 21600 + 3600 ≤ 6824554 by omega⟩) hS (fun r H1 locs1 hr9 hk9 hS1 => ?_)
  have hP := yKeep hP hk9
  have hS := hS1
  clear hk9 hS1
  subst hr9
  refine lv_lstore_n (lv' := [(3, .long (f_sum σ)), (1, .ref h)]) hx hb dL_law_783 rfl hl (by decide) rfl (fun ls hl => ?_)
  refine lv_aload_n hx hb dL_law_784 rfl (lv_at hl 1 rfl) ?_
  refine y_lro (va_runS (As := [.ref h]) (rest := []) ⟨hx, hb, hml, hown, hts⟩ (c_cases l hl9 G k h a c σ H1.size hJ) (va_cwS 1 hts gL_law_L_cases rfl rfl rfl (by decide +kernel) ⟨Nat.le_of_ble_eq_true rfl, Nat.le_of_ble_eq_true rfl⟩) (yL_pre hS hV hP hK) rfl rfl hl.1 rfl (lv_room (Nat.le_of_ble_eq_true rfl)) dL_law_785 ⟨show cells + 3600 + 600 + 9 ≤ 756716 by omega, show slots + 21600 + 3600 + 54 ≤ 6824554 by omega⟩) hS (fun r H1 locs1 hr9 hk9 hS1 => ?_)
  have hP := yKeep hP hk9
  have hS := hS1
  clear hk9 hS1
  subst hr9
  refine lv_istore (lv' := [(5, .int (nI σ.2.1)), (3, .long (f_sum σ)), (1, .ref h)]) hx hb dL_law_788 hl (by decide) rfl (fun ls hl => ?_)
  refine lv_aload_n hx hb dL_law_790 rfl (lv_at hl 2 rfl) ?_
  refine y_lro (va_runS (As := [.ref h]) (rest := []) ⟨hx, hb, hml, hown, hts⟩ (c_messages l hl9 G k h a c σ H1.size hJ) (va_cwS 1 hts gL_law_L_messages rfl rfl rfl (by decide +kernel) ⟨Nat.le_of_ble_eq_true rfl, Nat.le_of_ble_eq_true rfl⟩) (yL_pre hS hV hP hK) rfl rfl hl.1 rfl (lv_room (Nat.le_of_ble_eq_true rfl)) dL_law_791 ⟨show cells + 3600 + 600 + 9 + 5 ≤ 756716 by omega, show slots + 21600 + 3600 + 54 + 30 ≤ 6824554 by omega⟩) hS (fun r H1 locs1 hr9 hk9 hS1 => ?_)
  have hP := yKeep hP hk9
  have hS := hS1
  clear hk9 hS1
  subst hr9
  refine lv_istore (lv' := [(6, .int (nI σ.2.2.2.2.1)), (5, .int (nI σ.2.1)), (3, .long (f_sum σ)), (1, .ref h)]) hx hb dL_law_794 hl (by decide) rfl (fun ls hl => ?_)
  refine lv_aload_n hx hb dL_law_796 rfl (lv_at hl 3 rfl) ?_
  refine lv_iconst (v := 0) hx hb dL_law_797 (by decide) ?_
  refine lv_iconst (v := 0) hx hb dL_law_798 (by decide) ?_
  refine y_lrw (w := WS k h a c σ) (w' := WS k h a c (g_open 0 0 σ)) (vx_runSW (As := [.ref h, .int 0, .int 0]) (rest := []) ⟨hx, hb, hml, hown, hts⟩ (c_open l hl9 G k h a c σ H1.size 0 0 ((hDA σ).weaken (fun _ _ _ _ => trivial)) hJ.1) (vx_cwSW 3 hts gL_law_L_open rfl rfl rfl (by decide +kernel) ⟨Nat.le_of_ble_eq_true rfl, Nat.le_of_ble_eq_true rfl⟩) (yL_pre hS hV hP hK) rfl rfl hl.1 rfl (lv_room (Nat.le_of_ble_eq_true rfl)) dL_law_799 ⟨show cells + 3600 + 600 + 9 + 5 + 1 ≤ 756716 by omega, show slots + 21600 + 3600 + 54 + 30 + 6 ≤ 6824554 by omega⟩) (hDA σ) hS (fun r H1 locs1 hr9 hP1 hS1 => ?_)
  have hP := hP1
  have hS := hS1
  clear hP1 hS1
  have hr9 : r = f_open 0 0 σ := hr9
  subst hr9
  have e9 : g_open 0 0 σ = σ := (x_openf (by decide)).2
  rw [e9] at hP
  clear e9
  refine y_top ((x_openf (by decide)).1) ?_
  refine lv_sipush (v := (-1001)) hx hb dL_law_802 (by decide) ?_
  refine lv_icmp_ne (tgt := 1198) hx hb dL_law_805 (by decide) (fun c9 => absurd c9 (by decide)) (fun _ => ?_)
  refine lv_aload_n hx hb dL_law_808 rfl (lv_at hl 3 rfl) ?_
  refine lv_sipush (v := 10000) hx hb dL_law_809 (by decide) ?_
  refine lv_iconst (v := 0) hx hb dL_law_812 (by decide) ?_
  refine y_lrw (w := WS k h a c σ) (w' := WS k h a c (g_open 10000 0 σ)) (vx_runSW (As := [.ref h, .int 10000, .int 0]) (rest := []) ⟨hx, hb, hml, hown, hts⟩ (c_open l hl9 G k h a c σ H1.size 10000 0 ((hDA σ).weaken (fun _ _ _ _ => trivial)) hJ.1) (vx_cwSW 3 hts gL_law_L_open rfl rfl rfl (by decide +kernel) ⟨Nat.le_of_ble_eq_true rfl, Nat.le_of_ble_eq_true rfl⟩) (yL_pre hS hV hP hK) rfl rfl hl.1 rfl (lv_room (Nat.le_of_ble_eq_true rfl)) dL_law_813 ⟨show cells + 3600 + 600 + 9 + 5 + 1 + 1 ≤ 756716 by omega, show slots + 21600 + 3600 + 54 + 30 + 6 + 6 ≤ 6824554 by omega⟩) (hDA σ) hS (fun r H1 locs1 hr9 hP1 hS1 => ?_)
  have hP := hP1
  have hS := hS1
  clear hP1 hS1
  have hr9 : r = f_open 10000 0 σ := hr9
  subst hr9
  have e9 : g_open 10000 0 σ = σ := (x_openf (by decide)).2
  rw [e9] at hP
  clear e9
  refine y_top ((x_openf (by decide)).1) ?_
  refine lv_sipush (v := (-1001)) hx hb dL_law_816 (by decide) ?_
  refine lv_icmp_ne (tgt := 1198) hx hb dL_law_819 (by decide) (fun c9 => absurd c9 (by decide)) (fun _ => ?_)
  refine lv_aload_n hx hb dL_law_822 rfl (lv_at hl 3 rfl) ?_
  refine lv_iconst (v := 1) hx hb dL_law_823 (by decide) ?_
  refine lv_sipush (v := 1000) hx hb dL_law_824 (by decide) ?_
  refine y_lrw (w := WS k h a c σ) (w' := WS k h a c (g_open 1 1000 σ)) (vx_runSW (As := [.ref h, .int 1, .int 1000]) (rest := []) ⟨hx, hb, hml, hown, hts⟩ (c_open l hl9 G k h a c σ H1.size 1 1000 ((hDA σ).weaken (fun _ _ _ _ => trivial)) hJ.1) (vx_cwSW 3 hts gL_law_L_open rfl rfl rfl (by decide +kernel) ⟨Nat.le_of_ble_eq_true rfl, Nat.le_of_ble_eq_true rfl⟩) (yL_pre hS hV hP hK) rfl rfl hl.1 rfl (lv_room (Nat.le_of_ble_eq_true rfl)) dL_law_827 ⟨show cells + 3600 + 600 + 9 + 5 + 1 + 1 + 1 ≤ 756716 by omega, show slots + 21600 + 3600 + 54 + 30 + 6 + 6 + 6 ≤ 6824554 by omega⟩) (hDA σ) hS (fun r H1 locs1 hr9 hP1 hS1 => ?_)
  have hP := hP1
  have hS := hS1
  clear hP1 hS1
  have hr9 : r = f_open 1 1000 σ := hr9
  subst hr9
  have e9 : g_open 1 1000 σ = σ := (x_openf (by decide)).2
  rw [e9] at hP
  clear e9
  refine y_top ((x_openf (by decide)).1) ?_
  refine lv_sipush (v := (-1001)) hx hb dL_law_830 (by decide) ?_
  refine lv_icmp_ne (tgt := 1198) hx hb dL_law_833 (by decide) (fun c9 => absurd c9 (by decide)) (fun _ => ?_)
  refine lv_aload_n hx hb dL_law_836 rfl (lv_at hl 3 rfl) ?_
  refine lv_iload hx hb dL_law_837 (lv_at hl 1 rfl) ?_
  refine lv_iconst (v := 0) hx hb dL_law_839 (by decide) ?_
  refine y_lrw (w := WS k h a c σ) (w' := WS k h a c (g_pause (nI σ.2.1) 0 σ)) (vx_runSW (As := [.ref h, .int (nI σ.2.1), .int 0]) (rest := []) ⟨hx, hb, hml, hown, hts⟩ (c_pause l hl9 G k h a c σ H1.size (nI σ.2.1) 0 ((hDA σ).weaken (fun _ _ _ _ => trivial)) hJ.1) (vx_cwSW 3 hts gL_law_L_pause rfl rfl rfl (by decide +kernel) ⟨Nat.le_of_ble_eq_true rfl, Nat.le_of_ble_eq_true rfl⟩) (yL_pre hS hV hP hK) rfl rfl hl.1 rfl (lv_room (Nat.le_of_ble_eq_true rfl)) dL_law_840 ⟨show cells + 3600 + 600 + 9 + 5 + 1 + 1 + 1 + 3 ≤ 756716 by omega, show slots + 21600 + 3600 + 54 + 30 + 6 + 6 + 6 + 18 ≤ 6824554 by omega⟩) (hDA σ) hS (fun r H1 locs1 hr9 hP1 hS1 => ?_)
  have hP := hP1
  have hS := hS1
  clear hP1 hS1
  have hr9 : r = f_pause (nI σ.2.1) 0 σ := hr9
  subst hr9
  have e9 : g_pause (nI σ.2.1) 0 σ = σ := (x_pause1 (inR_n (by omega))).2
  rw [e9] at hP
  clear e9
  refine y_top ((x_pause1 (inR_n (by omega))).1) ?_
  refine lv_sipush (v := (-1001)) hx hb dL_law_843 (by decide) ?_
  refine lv_icmp_ne (tgt := 1198) hx hb dL_law_846 (by decide) (fun c9 => absurd c9 (by decide)) (fun _ => ?_)
  refine lv_iload hx hb dL_law_849 (lv_at hl 1 rfl) ?_
  refine lv_if_le (tgt := 866) hx hb dL_law_851 (by decide) (fun c851 => ?_) (fun c851 => ?_)
  · skip
    refine lv_iload hx hb dL_law_866 (lv_at hl 1 rfl) ?_
    refine lv_if_le (tgt := 884) hx hb dL_law_868 (by decide) (fun _ => ?_) (fun c9 => absurd c851 c9)
    exact law_end1 F9 hJ hP hS (by omega) (by omega) (lv_sub hl [3, 2, 1, 0] rfl)
  · skip
    have p851 : 0 < σ.2.1 := Nat.pos_of_ne_zero (fun h9 => c851 (by rw [h9]; decide))
    refine lv_aload_n hx hb dL_law_854 rfl (lv_at hl 3 rfl) ?_
    refine lv_iconst (v := 0) hx hb dL_law_855 (by decide) ?_
    refine lv_iconst (v := 0) hx hb dL_law_856 (by decide) ?_
    refine y_lrw (w := WS k h a c σ) (w' := WS k h a c (g_pause 0 0 σ)) (vx_runSW (As := [.ref h, .int 0, .int 0]) (rest := []) ⟨hx, hb, hml, hown, hts⟩ (c_pause l hl9 G k h a c σ H1.size 0 0 ((hDA σ).weaken (fun _ _ _ _ => trivial)) hJ.1) (vx_cwSW 3 hts gL_law_L_pause rfl rfl rfl (by decide +kernel) ⟨Nat.le_of_ble_eq_true rfl, Nat.le_of_ble_eq_true rfl⟩) (yL_pre hS hV hP hK) rfl rfl hl.1 rfl (lv_room (Nat.le_of_ble_eq_true rfl)) dL_law_857 ⟨show cells + 3600 + 600 + 9 + 5 + 1 + 1 + 1 + 3 + 3 ≤ 756716 by omega, show slots + 21600 + 3600 + 54 + 30 + 6 + 6 + 6 + 18 + 18 ≤ 6824554 by omega⟩) (hDA σ) hS (fun r H1 locs1 hr9 hP1 hS1 => ?_)
    have hP := hP1
    have hS := hS1
    clear hP1 hS1
    have hr9 : r = f_pause 0 0 σ := hr9
    subst hr9
    have e9 : g_pause 0 0 σ = σ := (x_pause2 (inR_nI (j := 0) (by omega) p851) (by decide)).2
    rw [e9] at hP
    clear e9
    refine y_top ((x_pause2 (inR_nI (j := 0) (by omega) p851) (by decide)).1) ?_
    refine lv_sipush (v := (-1002)) hx hb dL_law_860 (by decide) ?_
    refine lv_icmp_ne (tgt := 1198) hx hb dL_law_863 (by decide) (fun c9 => absurd c9 (by decide)) (fun _ => ?_)
    refine lv_iload hx hb dL_law_866 (lv_at hl 1 rfl) ?_
    refine lv_if_le (tgt := 884) hx hb dL_law_868 (by decide) (fun c9 => absurd c9 c851) (fun _ => ?_)
    refine lv_aload_n hx hb dL_law_871 rfl (lv_at hl 3 rfl) ?_
    refine lv_iconst (v := 0) hx hb dL_law_872 (by decide) ?_
    refine lv_bipush (v := 61) hx hb dL_law_873 (by decide) ?_
    refine y_lrw (w := WS k h a c σ) (w' := WS k h a c (g_pause 0 61 σ)) (vx_runSW (As := [.ref h, .int 0, .int 61]) (rest := []) ⟨hx, hb, hml, hown, hts⟩ (c_pause l hl9 G k h a c σ H1.size 0 61 ((hDA σ).weaken (fun _ _ _ _ => trivial)) hJ.1) (vx_cwSW 3 hts gL_law_L_pause rfl rfl rfl (by decide +kernel) ⟨Nat.le_of_ble_eq_true rfl, Nat.le_of_ble_eq_true rfl⟩) (yL_pre hS hV hP hK) rfl rfl hl.1 rfl (lv_room (Nat.le_of_ble_eq_true rfl)) dL_law_875 ⟨show cells + 3600 + 600 + 9 + 5 + 1 + 1 + 1 + 3 + 3 + 3 ≤ 756716 by omega, show slots + 21600 + 3600 + 54 + 30 + 6 + 6 + 6 + 18 + 18 + 18 ≤ 6824554 by omega⟩) (hDA σ) hS (fun r H1 locs1 hr9 hP1 hS1 => ?_)
    have hP := hP1
    have hS := hS1
    clear hP1 hS1
    have hr9 : r = f_pause 0 61 σ := hr9
    subst hr9
    have e9 : g_pause 0 61 σ = σ := (x_pause2 (inR_nI (j := 0) (by omega) p851) (by decide)).2
    rw [e9] at hP
    clear e9
    refine y_top ((x_pause2 (inR_nI (j := 0) (by omega) p851) (by decide)).1) ?_
    refine lv_sipush (v := (-1002)) hx hb dL_law_878 (by decide) ?_
    refine lv_icmp_ne (tgt := 1198) hx hb dL_law_881 (by decide) (fun c9 => absurd c9 (by decide)) (fun _ => ?_)
    exact law_end1 F9 hJ hP hS (by omega) (by omega) (lv_sub hl [3, 2, 1, 0] rfl)

set_option maxHeartbeats 8000000 in
theorem law_big {p : Program} {l : Launch} {e : Env} {s : State} {m : MethodId} {below : List Frame} {meth : Method} {c_ : Code} {b L : Nat} {xs : Nat → Int32} {G : va_G} {k : Nat → ClassId} {h : Nat} {a c : Nat → Nat} (F : LF p l s m meth c_ b L xs G k h a c) {z9 j : Nat} (hz : z9 < 58) (hzj : z9 ≤ j) {σ : SX} (hJ : yJs σ) {H : Heap} {locs : List Loc} {cells slots : Nat} {ls : Array Slot} (hP : va_P G vwCl (WS k h a c σ) H) (hS : yO s H locs) (hb1 : cells + 5300 ≤ 756716) (hb2 : slots + 31800 ≤ 6824554) (hj : j < 2 ^ 20) (hl : lv_has ls 16 [(0, .ref b), (1, .ref h), (2, .int (nI z9)), (3, .int (nI j))]) : W p l e room_1 s m #[Value.ref b] below meth c_ H locs cells slots (lw_Z below #[Value.ref b] s) (F0 m 21 ls []) := by
  have F9 := F
  obtain ⟨hx, hb, hr, hml, hown, hts, hX, hbl, hL, hK, hV, hl9, hlocks, hDA⟩ := F
  refine lv_iload_n hx hb dL_law_21 rfl (lv_at hl 3 rfl) ?_
  refine lv_iload_n hx hb dL_law_22 rfl (lv_at hl 2 rfl) ?_
  refine lv_icmp_ge (tgt := 770) hx hb dL_law_23 (by decide) (fun _ => ?_) (fun c9 => absurd ((nI_leI (a := z9) (b := j) (by omega) (by omega)).mpr hzj) c9)
  exact law_end0 F9 hJ hP hS (by omega) (by omega) (lv_sub hl [1] rfl)
