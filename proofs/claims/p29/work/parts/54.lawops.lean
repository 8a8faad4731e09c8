set_option maxHeartbeats 8000000 in
set_option maxRecDepth 100000 in
theorem law_take {p : Program} {l : Launch} {e : Env} {s : State} {m : MethodId} {below : List Frame} {meth : Method} {c_ : Code} {b L : Nat} {xs : Nat → Int32} {G : va_G} {k : Nat → ClassId} {h : Nat} {a c : Nat → Nat} (F : LF p l s m meth c_ b L xs G k h a c) {σ : SX} (hJ : yJs σ) {z9 j A B v9 w9 : Nat} {cc nn isW kd : Int32} {bf : Int64} (hj : j < 58) (hd : σ.2.2.2.2.2 ≤ 7 * j) (hw8 : w9 < 5000000) (hbf : ¬ isW = 0 → f_sum σ = bf) (kt : KT p l e s m below meth c_ b G k h a c z9 isW bf j A B) {H : Heap} {locs : List Loc} {cells slots : Nat} {ls : Array Slot} (hP : va_P G vwCl (WS k h a c σ) H) (hS : yO s H locs) (hb1 : cells + (A + 100) ≤ 756716) (hb2 : slots + (B + 600) ≤ 6824554) (hl : lv_has ls 16 [(0, .ref b), (1, .ref h), (2, .int (nI z9)), (3, .int (nI j)), (4, .int (nI v9)), (5, .int (nI w9)), (6, .int cc), (7, .int (nI σ.2.2.2.2.1)), (8, .int nn), (9, .int isW), (10, .long bf), (12, .int 0), (13, .int kd)]) : W p l e room_1 s m #[Value.ref b] below meth c_ H locs cells slots (lw_Z below #[Value.ref b] s) (F0 m 356 ls []) := by
  obtain ⟨hx, hb, hr, hml, hown, hts, hX, hbl, hL, hK, hV, hl9, hlocks, hDA⟩ := F
  have hn0 : σ.2.1 ≤ 8 := J_n0 hJ
  have hn1 : σ.2.2.2.2.1 ≤ 80 := J_n1 hJ
  refine lv_aload_n hx hb dL_law_356 rfl (lv_at hl 1 rfl) ?_
  refine lv_iload hx hb dL_law_357 (lv_at hl 5 rfl) ?_
  refine lv_iconst (v := 3) hx hb dL_law_359 (by decide) ?_
  refine lv_irem hx hb dL_law_360 (by decide) ?_
  refine y_top (irem_eq_mod _ _) ?_
  refine lv_iconst (v := 0) hx hb dL_law_361 (by decide) ?_
  refine y_lro (vx_runSW (As := [.ref h, .int ((nI w9) % 3), .int 0]) (rest := []) ⟨hx, hb, hml, hown, hts⟩ (c_rap l hl9 G k h a c σ H.size ((nI w9) % 3) 0 hJ.1 (by decide)) (vx_cwSW 3 hts gL_law_L_ready rfl rfl rfl (by decide +kernel) ⟨Nat.le_of_ble_eq_true rfl, Nat.le_of_ble_eq_true rfl⟩) (yL_pre hS hV hP hK) rfl rfl hl.1 rfl (lv_room (Nat.le_of_ble_eq_true rfl)) dL_law_362 ⟨show cells + 2 ≤ 756716 by omega, show slots + 12 ≤ 6824554 by omega⟩) hS (fun r H1 locs1 hr9 hk9 hS1 => ?_)
  have hP := yKeep hP hk9
  have hS := hS1
  clear hk9 hS1
  subst hr9
  refine lv_istore (lv' := [(14, .int (f_rap ((nI w9) % 3) 0 σ)), (0, .ref b), (1, .ref h), (2, .int (nI z9)), (3, .int (nI j)), (4, .int (nI v9)), (5, .int (nI w9)), (6, .int cc), (7, .int (nI σ.2.2.2.2.1)), (8, .int nn), (9, .int isW), (10, .long bf), (12, .int 0), (13, .int kd)]) hx hb dL_law_365 hl (by decide) rfl (fun ls hl => ?_)
  refine lv_aload_n hx hb dL_law_367 rfl (lv_at hl 2 rfl) ?_
  refine lv_iload hx hb dL_law_368 (lv_at hl 6 rfl) ?_
  refine lv_iconst (v := 3) hx hb dL_law_370 (by decide) ?_
  refine lv_idiv hx hb dL_law_371 (by decide) ?_
  refine lv_iconst (v := 4) hx hb dL_law_372 (by decide) ?_
  refine lv_irem hx hb dL_law_373 (by decide) ?_
  refine y_top (irem_eq_mod _ _) ?_
  refine lv_iload hx hb dL_law_374 (lv_at hl 6 rfl) ?_
  refine lv_iconst (v := 3) hx hb dL_law_376 (by decide) ?_
  refine lv_irem hx hb dL_law_377 (by decide) ?_
  refine y_top (irem_eq_mod _ _) ?_
  refine y_lrw (w := WS k h a c σ) (w' := WS k h a c (g_take (((nI w9) / 3) % 4) ((nI w9) % 3) σ)) (vx_runSW (As := [.ref h, .int (((nI w9) / 3) % 4), .int ((nI w9) % 3)]) (rest := []) ⟨hx, hb, hml, hown, hts⟩ (c_take l hl9 G k h a c σ H1.size (((nI w9) / 3) % 4) ((nI w9) % 3) ((hDA σ).weaken (fun _ _ _ _ => trivial)) hJ.1) (vx_cwSW 3 hts gL_law_L_take rfl rfl rfl (by decide +kernel) ⟨Nat.le_of_ble_eq_true rfl, Nat.le_of_ble_eq_true rfl⟩) (yL_pre hS hV hP hK) rfl rfl hl.1 rfl (lv_room (Nat.le_of_ble_eq_true rfl)) dL_law_378 ⟨show cells + 2 + 3 ≤ 756716 by omega, show slots + 12 + 18 ≤ 6824554 by omega⟩) (hDA σ) hS (fun r H1 locs1 hr9 hP1 hS1 => ?_)
  have hP := hP1
  have hS := hS1
  clear hP1 hS1
  have hr9 : r = f_take (((nI w9) / 3) % 4) ((nI w9) % 3) σ := hr9
  subst hr9
  refine lv_istore (lv' := [(12, .int (f_take (((nI w9) / 3) % 4) ((nI w9) % 3) σ)), (14, .int (f_rap ((nI w9) % 3) 0 σ)), (0, .ref b), (1, .ref h), (2, .int (nI z9)), (3, .int (nI j)), (4, .int (nI v9)), (5, .int (nI w9)), (6, .int cc), (7, .int (nI σ.2.2.2.2.1)), (8, .int nn), (9, .int isW), (10, .long bf), (13, .int kd)]) hx hb dL_law_381 hl (by decide) rfl (fun ls hl => ?_)
  refine lv_iload hx hb dL_law_383 (lv_at hl 0 rfl) ?_
  refine lv_if_lt (tgt := 413) hx hb dL_law_385 (by decide) (fun c385 => ?_) (fun c385 => ?_)
  · skip
    refine lv_goto (tgt := 723) hx hb dL_law_413 (by decide) ?_
    have q1 : cells + 2 + 3 + A ≤ 756716 := by omega
    have q2 : slots + 12 + 18 + B ≤ 6824554 := by omega
    exact kt _ _ _ _ _ _ _ (J_take hJ _ _) (show σ.2.2.2.2.2 ≤ 7 * (j + 1) by omega) (fun h9 h8 => (congrArg f_sum (lt_take hJ h9)).trans (hbf h8)) hP hS q1 q2 (lv_sub hl [2, 3, 4, 5, 11, 12, 0] rfl)
  · skip
    have htc := take_c hJ c385
    refine lv_iload hx hb dL_law_388 (lv_at hl 0 rfl) ?_
    refine lv_iload hx hb dL_law_390 (lv_at hl 1 rfl) ?_
    refine lv_icmp_ne (tgt := 411) hx hb dL_law_392 (by decide) (fun c9 => absurd htc.1 c9) (fun _ => ?_)
    refine lv_aload_n hx hb dL_law_395 rfl (lv_at hl 3 rfl) ?_
    refine lv_iload hx hb dL_law_396 (lv_at hl 0 rfl) ?_
    refine lv_iconst (v := 4) hx hb dL_law_398 (by decide) ?_
    refine y_lro (vx_runSW (As := [.ref h, .int (f_take (((nI w9) / 3) % 4) ((nI w9) % 3) σ), .int 4]) (rest := []) ⟨hx, hb, hml, hown, hts⟩ (c_msg_4 l hl9 G k h a c (g_take (((nI w9) / 3) % 4) ((nI w9) % 3) σ) H1.size (f_take (((nI w9) / 3) % 4) ((nI w9) % 3) σ) (J_take hJ _ _).1) (vx_cwSW 3 hts gL_law_L_message rfl rfl rfl (by decide +kernel) ⟨Nat.le_of_ble_eq_true rfl, Nat.le_of_ble_eq_true rfl⟩) (yL_pre hS hV hP hK) rfl rfl hl.1 rfl (lv_room (Nat.le_of_ble_eq_true rfl)) dL_law_399 ⟨show cells + 2 + 3 + 2 ≤ 756716 by omega, show slots + 12 + 18 + 12 ≤ 6824554 by omega⟩) hS (fun r H1 locs1 hr9 hk9 hS1 => ?_)
    have hP := yKeep hP hk9
    have hS := hS1
    clear hk9 hS1
    subst hr9
    refine y_top (htc.2) ?_
    refine lv_iload hx hb dL_law_402 (lv_at hl 7 rfl) ?_
    refine lv_iconst (v := 3) hx hb dL_law_404 (by decide) ?_
    refine lv_idiv hx hb dL_law_405 (by decide) ?_
    refine lv_iconst (v := 4) hx hb dL_law_406 (by decide) ?_
    refine lv_irem hx hb dL_law_407 (by decide) ?_
    refine y_top (irem_eq_mod _ _) ?_
    refine lv_icmp_eq (tgt := 413) hx hb dL_law_408 (by decide) (fun _ => ?_) (fun c9 => absurd rfl c9)
    refine lv_goto (tgt := 723) hx hb dL_law_413 (by decide) ?_
    have q1 : cells + 2 + 3 + 2 + A ≤ 756716 := by omega
    have q2 : slots + 12 + 18 + 12 + B ≤ 6824554 := by omega
    exact kt _ _ _ _ _ _ _ (J_take hJ _ _) (show σ.2.2.2.2.2 ≤ 7 * (j + 1) by omega) (fun h9 h8 => (congrArg f_sum (lt_take hJ h9)).trans (hbf h8)) hP hS q1 q2 (lv_sub hl [2, 3, 4, 5, 11, 12, 0] rfl)

set_option maxHeartbeats 8000000 in
set_option maxRecDepth 100000 in
theorem law_fin {p : Program} {l : Launch} {e : Env} {s : State} {m : MethodId} {below : List Frame} {meth : Method} {c_ : Code} {b L : Nat} {xs : Nat → Int32} {G : va_G} {k : Nat → ClassId} {h : Nat} {a c : Nat → Nat} (F : LF p l s m meth c_ b L xs G k h a c) {σ : SX} (hJ : yJs σ) {z9 j A B v9 w9 : Nat} {cc nn isW kd : Int32} {bf : Int64} (hj : j < 58) (hd : σ.2.2.2.2.2 ≤ 7 * j) (hw8 : w9 < 5000000) (hbf : ¬ isW = 0 → f_sum σ = bf) (kt : KT p l e s m below meth c_ b G k h a c z9 isW bf j A B) {H : Heap} {locs : List Loc} {cells slots : Nat} {ls : Array Slot} (hP : va_P G vwCl (WS k h a c σ) H) (hS : yO s H locs) (hb1 : cells + (A + 100) ≤ 756716) (hb2 : slots + (B + 600) ≤ 6824554) (hl : lv_has ls 16 [(0, .ref b), (1, .ref h), (2, .int (nI z9)), (3, .int (nI j)), (4, .int (nI v9)), (5, .int (nI w9)), (6, .int cc), (7, .int (nI σ.2.2.2.2.1)), (8, .int nn), (9, .int isW), (10, .long bf), (12, .int 0), (13, .int kd)]) : W p l e room_1 s m #[Value.ref b] below meth c_ H locs cells slots (lw_Z below #[Value.ref b] s) (F0 m 423 ls []) := by
  obtain ⟨hx, hb, hr, hml, hown, hts, hX, hbl, hL, hK, hV, hl9, hlocks, hDA⟩ := F
  have hn0 : σ.2.1 ≤ 8 := J_n0 hJ
  have hn1 : σ.2.2.2.2.1 ≤ 80 := J_n1 hJ
  refine lv_iconst (v := 0) hx hb dL_law_423 (by decide) ?_
  refine lv_istore (lv' := [(14, .int 0), (0, .ref b), (1, .ref h), (2, .int (nI z9)), (3, .int (nI j)), (4, .int (nI v9)), (5, .int (nI w9)), (6, .int cc), (7, .int (nI σ.2.2.2.2.1)), (8, .int nn), (9, .int isW), (10, .long bf), (12, .int 0), (13, .int kd)]) hx hb dL_law_424 hl (by decide) rfl (fun ls hl => ?_)
  have hl : lv_has ls 16 [(14, .int (nI 0)), (0, .ref b), (1, .ref h), (2, .int (nI z9)), (3, .int (nI j)), (4, .int (nI v9)), (5, .int (nI w9)), (7, .int (nI σ.2.2.2.2.1)), (8, .int nn), (9, .int isW), (10, .long bf), (12, .int 0), (13, .int kd)] := lv_sub hl [0, 1, 2, 3, 4, 5, 6, 8, 9, 10, 11, 12, 13] rfl
  refine y_loopC (σ := Nat × Int32) (fun r xσ cells slots H locs ls => xσ.1 + r = σ.2.2.2.2.1 ∧ va_P G vwCl (WS k h a c σ) H ∧ yO s H locs ∧ cells + (1 * r + (A + 10)) ≤ 756716 ∧ slots + (6 * r + (B + 60)) ≤ 6824554 ∧ lv_has ls 16 [(14, .int (nI xσ.1)), (0, .ref b), (1, .ref h), (2, .int (nI z9)), (3, .int (nI j)), (4, .int (nI v9)), (5, .int (nI w9)), (7, .int (nI σ.2.2.2.2.1)), (8, .int xσ.2), (9, .int isW), (10, .long bf), (12, .int 0), (13, .int kd)]) (fun r xσ cells slots H locs ls hI ih426 => ?_) σ.2.2.2.2.1 (0, nn) _ _ _ _ _ ⟨(by omega), hP, hS, (Nat.le_trans (by (try dsimp only); omega) hb1), (Nat.le_trans (by (try dsimp only); omega) hb2), hl⟩
  obtain ⟨mm, n8⟩ := xσ
  obtain ⟨hi, hP, hS, hb1, hb2, hl⟩ := hI
  dsimp only at hi hl
  refine lv_iload hx hb dL_law_426 (lv_at hl 0 rfl) ?_
  refine lv_iload hx hb dL_law_428 (lv_at hl 7 rfl) ?_
  refine lv_icmp_ge (tgt := 467) hx hb dL_law_430 (by decide) (fun c430 => ?_) (fun c430 => ?_)
  · skip
    replace c430 : σ.2.2.2.2.1 ≤ mm := (nI_leI (a := σ.2.2.2.2.1) (b := mm) (by omega) (by omega)).mp c430
    refine lv_aload_n hx hb dL_law_467 rfl (lv_at hl 2 rfl) ?_
    refine lv_iload hx hb dL_law_468 (lv_at hl 8 rfl) ?_
    refine lv_iload hx hb dL_law_470 (lv_at hl 12 rfl) ?_
    refine lv_bipush (v := 15) hx hb dL_law_472 (by decide) ?_
    refine lv_icmp_ge (tgt := 481) hx hb dL_law_474 (by decide) (fun c474 => ?_) (fun c474 => ?_)
    · skip
      refine lv_bipush (v := 6) hx hb dL_law_481 (by decide) ?_
      refine y_lrw (w := WS k h a c σ) (w' := WS k h a c (g_hb n8 σ)) (vx_runSW (As := [.ref h, .int n8, .int 6]) (rest := []) ⟨hx, hb, hml, hown, hts⟩ (c_msg_6 l hl9 G k h a c σ H.size n8 ((hDA σ).weaken (fun _ _ _ _ => trivial)) hJ.1) (vx_cwSW 3 hts gL_law_L_message rfl rfl rfl (by decide +kernel) ⟨Nat.le_of_ble_eq_true rfl, Nat.le_of_ble_eq_true rfl⟩) (yL_pre hS hV hP hK) rfl rfl hl.1 rfl (lv_room (Nat.le_of_ble_eq_true rfl)) dL_law_483 ⟨show cells + 2 ≤ 756716 by omega, show slots + 12 ≤ 6824554 by omega⟩) (hDA σ) hS (fun r H1 locs1 hr9 hP1 hS1 => ?_)
      have hP := hP1
      have hS := hS1
      clear hP1 hS1
      have hr9 : r = f_hb n8 σ := hr9
      subst hr9
      refine lv_istore (lv' := [(12, .int (f_hb n8 σ)), (14, .int (nI mm)), (0, .ref b), (1, .ref h), (2, .int (nI z9)), (3, .int (nI j)), (4, .int (nI v9)), (5, .int (nI w9)), (7, .int (nI σ.2.2.2.2.1)), (8, .int n8), (9, .int isW), (10, .long bf), (13, .int kd)]) hx hb dL_law_486 hl (by decide) rfl (fun ls hl => ?_)
      refine lv_iload hx hb dL_law_488 (lv_at hl 0 rfl) ?_
      refine lv_if_lt (tgt := 723) hx hb dL_law_490 (by decide) (fun c490 => ?_) (fun c490 => ?_)
      · skip
        have q1 : cells + 2 + A ≤ 756716 := by omega
        have q2 : slots + 12 + B ≤ 6824554 := by omega
        exact kt _ _ _ _ _ _ _ (J_hb hJ _) (show σ.2.2.2.2.2 ≤ 7 * (j + 1) by omega) (fun h9 h8 => (congrArg f_sum (lt_hb hJ h9)).trans (hbf h8)) hP hS q1 q2 (lv_sub hl [2, 3, 4, 5, 10, 11, 0] rfl)
      · skip
        have hfc := hb_c hJ c490
        refine lv_iload hx hb dL_law_493 (lv_at hl 12 rfl) ?_
        refine lv_bipush (v := 15) hx hb dL_law_495 (by decide) ?_
        refine lv_icmp_ge (tgt := 515) hx hb dL_law_497 (by decide) (fun _ => ?_) (fun c9 => absurd c474 c9)
        refine lv_aload_n hx hb dL_law_515 rfl (lv_at hl 3 rfl) ?_
        refine lv_iload hx hb dL_law_516 (lv_at hl 9 rfl) ?_
        refine lv_iconst (v := 0) hx hb dL_law_518 (by decide) ?_
        refine y_lro (vx_runSW (As := [.ref h, .int n8, .int 0]) (rest := []) ⟨hx, hb, hml, hown, hts⟩ (c_msg_0 l hl9 G k h a c (g_hb n8 σ) H1.size n8 (J_hb hJ _).1) (vx_cwSW 3 hts gL_law_L_message rfl rfl rfl (by decide +kernel) ⟨Nat.le_of_ble_eq_true rfl, Nat.le_of_ble_eq_true rfl⟩) (yL_pre hS hV hP hK) rfl rfl hl.1 rfl (lv_room (Nat.le_of_ble_eq_true rfl)) dL_law_519 ⟨show cells + 2 + 1 ≤ 756716 by omega, show slots + 12 + 6 ≤ 6824554 by omega⟩) hS (fun r H1 locs1 hr9 hk9 hS1 => ?_)
        have hP := yKeep hP hk9
        have hS := hS1
        clear hk9 hS1
        subst hr9
        refine lv_bipush (v := 116) hx hb dL_law_522 (by decide) ?_
        refine lv_icmp_ne (tgt := 723) hx hb dL_law_524 (by decide) (fun _ => ?_) (fun c9 => absurd c9 hfc)
        have q1 : cells + 2 + 1 + A ≤ 756716 := by omega
        have q2 : slots + 12 + 6 + B ≤ 6824554 := by omega
        exact kt _ _ _ _ _ _ _ (J_hb hJ _) (show σ.2.2.2.2.2 ≤ 7 * (j + 1) by omega) (fun h9 h8 => (congrArg f_sum (lt_hb hJ h9)).trans (hbf h8)) hP hS q1 q2 (lv_sub hl [2, 3, 4, 5, 10, 11, 0] rfl)
    · skip
      refine lv_iconst (v := 5) hx hb dL_law_477 (by decide) ?_
      refine lv_goto (tgt := 483) hx hb dL_law_478 (by decide) ?_
      refine y_lrw (w := WS k h a c σ) (w' := WS k h a c (g_fin n8 σ)) (vx_runSW (As := [.ref h, .int n8, .int 5]) (rest := []) ⟨hx, hb, hml, hown, hts⟩ (c_msg_5 l hl9 G k h a c σ H.size n8 ((hDA σ).weaken (fun _ _ _ _ => trivial)) hJ.1) (vx_cwSW 3 hts gL_law_L_message rfl rfl rfl (by decide +kernel) ⟨Nat.le_of_ble_eq_true rfl, Nat.le_of_ble_eq_true rfl⟩) (yL_pre hS hV hP hK) rfl rfl hl.1 rfl (lv_room (Nat.le_of_ble_eq_true rfl)) dL_law_483 ⟨show cells + 2 ≤ 756716 by omega, show slots + 12 ≤ 6824554 by omega⟩) (hDA σ) hS (fun r H1 locs1 hr9 hP1 hS1 => ?_)
      have hP := hP1
      have hS := hS1
      clear hP1 hS1
      have hr9 : r = f_fin n8 σ := hr9
      subst hr9
      refine lv_istore (lv' := [(12, .int (f_fin n8 σ)), (14, .int (nI mm)), (0, .ref b), (1, .ref h), (2, .int (nI z9)), (3, .int (nI j)), (4, .int (nI v9)), (5, .int (nI w9)), (7, .int (nI σ.2.2.2.2.1)), (8, .int n8), (9, .int isW), (10, .long bf), (13, .int kd)]) hx hb dL_law_486 hl (by decide) rfl (fun ls hl => ?_)
      refine lv_iload hx hb dL_law_488 (lv_at hl 0 rfl) ?_
      refine lv_if_lt (tgt := 723) hx hb dL_law_490 (by decide) (fun c490 => ?_) (fun c490 => ?_)
      · skip
        have q1 : cells + 2 + A ≤ 756716 := by omega
        have q2 : slots + 12 + B ≤ 6824554 := by omega
        exact kt _ _ _ _ _ _ _ (J_fin hJ _) (show σ.2.2.2.2.2 ≤ 7 * (j + 1) by omega) (fun h9 h8 => (congrArg f_sum (lt_fin h9)).trans (hbf h8)) hP hS q1 q2 (lv_sub hl [2, 3, 4, 5, 10, 11, 0] rfl)
      · skip
        have hfc := fin_c hJ c490
        refine lv_iload hx hb dL_law_493 (lv_at hl 12 rfl) ?_
        refine lv_bipush (v := 15) hx hb dL_law_495 (by decide) ?_
        refine lv_icmp_ge (tgt := 515) hx hb dL_law_497 (by decide) (fun c9 => absurd c9 c474) (fun _ => ?_)
        refine lv_aload_n hx hb dL_law_500 rfl (lv_at hl 3 rfl) ?_
        refine lv_iload hx hb dL_law_501 (lv_at hl 9 rfl) ?_
        refine lv_iconst (v := 0) hx hb dL_law_503 (by decide) ?_
        refine y_lro (vx_runSW (As := [.ref h, .int n8, .int 0]) (rest := []) ⟨hx, hb, hml, hown, hts⟩ (c_msg_0 l hl9 G k h a c (g_fin n8 σ) H1.size n8 (J_fin hJ _).1) (vx_cwSW 3 hts gL_law_L_message rfl rfl rfl (by decide +kernel) ⟨Nat.le_of_ble_eq_true rfl, Nat.le_of_ble_eq_true rfl⟩) (yL_pre hS hV hP hK) rfl rfl hl.1 rfl (lv_room (Nat.le_of_ble_eq_true rfl)) dL_law_504 ⟨show cells + 2 + 1 ≤ 756716 by omega, show slots + 12 + 6 ≤ 6824554 by omega⟩) hS (fun r H1 locs1 hr9 hk9 hS1 => ?_)
        have hP := yKeep hP hk9
        have hS := hS1
        clear hk9 hS1
        subst hr9
        refine y_top (hfc) ?_
        refine lv_bipush (v := 100) hx hb dL_law_507 (by decide) ?_
        refine lv_icmp_eq (tgt := 723) hx hb dL_law_509 (by decide) (fun _ => ?_) (fun c9 => absurd c9 (by decide))
        have q1 : cells + 2 + 1 + A ≤ 756716 := by omega
        have q2 : slots + 12 + 6 + B ≤ 6824554 := by omega
        exact kt _ _ _ _ _ _ _ (J_fin hJ _) (show σ.2.2.2.2.2 ≤ 7 * (j + 1) by omega) (fun h9 h8 => (congrArg f_sum (lt_fin h9)).trans (hbf h8)) hP hS q1 q2 (lv_sub hl [2, 3, 4, 5, 10, 11, 0] rfl)
  · skip
    have c430 : mm < σ.2.2.2.2.1 := Nat.not_le.mp (fun h9 => c430 ((nI_leI (a := σ.2.2.2.2.1) (b := mm) (by omega) (by omega)).mpr h9))
    obtain ⟨r1, rfl⟩ : ∃ z, r = z + 1 := ⟨r - 1, by omega⟩
    refine lv_iload hx hb dL_law_433 (lv_at hl 6 rfl) ?_
    refine lv_iconst (v := 4) hx hb dL_law_435 (by decide) ?_
    refine lv_irem hx hb dL_law_436 (by decide) ?_
    refine y_top (irem_eq_mod _ _) ?_
    refine lv_if_le (tgt := 467) hx hb dL_law_437 (by decide) (fun c437 => ?_) (fun c437 => ?_)
    · skip
      refine lv_aload_n hx hb dL_law_467 rfl (lv_at hl 2 rfl) ?_
      refine lv_iload hx hb dL_law_468 (lv_at hl 8 rfl) ?_
      refine lv_iload hx hb dL_law_470 (lv_at hl 12 rfl) ?_
      refine lv_bipush (v := 15) hx hb dL_law_472 (by decide) ?_
      refine lv_icmp_ge (tgt := 481) hx hb dL_law_474 (by decide) (fun c474 => ?_) (fun c474 => ?_)
      · skip
        refine lv_bipush (v := 6) hx hb dL_law_481 (by decide) ?_
        refine y_lrw (w := WS k h a c σ) (w' := WS k h a c (g_hb n8 σ)) (vx_runSW (As := [.ref h, .int n8, .int 6]) (rest := []) ⟨hx, hb, hml, hown, hts⟩ (c_msg_6 l hl9 G k h a c σ H.size n8 ((hDA σ).weaken (fun _ _ _ _ => trivial)) hJ.1) (vx_cwSW 3 hts gL_law_L_message rfl rfl rfl (by decide +kernel) ⟨Nat.le_of_ble_eq_true rfl, Nat.le_of_ble_eq_true rfl⟩) (yL_pre hS hV hP hK) rfl rfl hl.1 rfl (lv_room (Nat.le_of_ble_eq_true rfl)) dL_law_483 ⟨show cells + 2 ≤ 756716 by omega, show slots + 12 ≤ 6824554 by omega⟩) (hDA σ) hS (fun r H1 locs1 hr9 hP1 hS1 => ?_)
        have hP := hP1
        have hS := hS1
        clear hP1 hS1
        have hr9 : r = f_hb n8 σ := hr9
        subst hr9
        refine lv_istore (lv' := [(12, .int (f_hb n8 σ)), (14, .int (nI mm)), (0, .ref b), (1, .ref h), (2, .int (nI z9)), (3, .int (nI j)), (4, .int (nI v9)), (5, .int (nI w9)), (7, .int (nI σ.2.2.2.2.1)), (8, .int n8), (9, .int isW), (10, .long bf), (13, .int kd)]) hx hb dL_law_486 hl (by decide) rfl (fun ls hl => ?_)
        refine lv_iload hx hb dL_law_488 (lv_at hl 0 rfl) ?_
        refine lv_if_lt (tgt := 723) hx hb dL_law_490 (by decide) (fun c490 => ?_) (fun c490 => ?_)
        · skip
          have q1 : cells + 2 + A ≤ 756716 := by omega
          have q2 : slots + 12 + B ≤ 6824554 := by omega
          exact kt _ _ _ _ _ _ _ (J_hb hJ _) (show σ.2.2.2.2.2 ≤ 7 * (j + 1) by omega) (fun h9 h8 => (congrArg f_sum (lt_hb hJ h9)).trans (hbf h8)) hP hS q1 q2 (lv_sub hl [2, 3, 4, 5, 10, 11, 0] rfl)
        · skip
          have hfc := hb_c hJ c490
          refine lv_iload hx hb dL_law_493 (lv_at hl 12 rfl) ?_
          refine lv_bipush (v := 15) hx hb dL_law_495 (by decide) ?_
          refine lv_icmp_ge (tgt := 515) hx hb dL_law_497 (by decide) (fun _ => ?_) (fun c9 => absurd c474 c9)
          refine lv_aload_n hx hb dL_law_515 rfl (lv_at hl 3 rfl) ?_
          refine lv_iload hx hb dL_law_516 (lv_at hl 9 rfl) ?_
          refine lv_iconst (v := 0) hx hb dL_law_518 (by decide) ?_
          refine y_lro (vx_runSW (As := [.ref h, .int n8, .int 0]) (rest := []) ⟨hx, hb, hml, hown, hts⟩ (c_msg_0 l hl9 G k h a c (g_hb n8 σ) H1.size n8 (J_hb hJ _).1) (vx_cwSW 3 hts gL_law_L_message rfl rfl rfl (by decide +kernel) ⟨Nat.le_of_ble_eq_true rfl, Nat.le_of_ble_eq_true rfl⟩) (yL_pre hS hV hP hK) rfl rfl hl.1 rfl (lv_room (Nat.le_of_ble_eq_true rfl)) dL_law_519 ⟨show cells + 2 + 1 ≤ 756716 by omega, show slots + 12 + 6 ≤ 6824554 by omega⟩) hS (fun r H1 locs1 hr9 hk9 hS1 => ?_)
          have hP := yKeep hP hk9
          have hS := hS1
          clear hk9 hS1
          subst hr9
          refine lv_bipush (v := 116) hx hb dL_law_522 (by decide) ?_
          refine lv_icmp_ne (tgt := 723) hx hb dL_law_524 (by decide) (fun _ => ?_) (fun c9 => absurd c9 hfc)
          have q1 : cells + 2 + 1 + A ≤ 756716 := by omega
          have q2 : slots + 12 + 6 + B ≤ 6824554 := by omega
          exact kt _ _ _ _ _ _ _ (J_hb hJ _) (show σ.2.2.2.2.2 ≤ 7 * (j + 1) by omega) (fun h9 h8 => (congrArg f_sum (lt_hb hJ h9)).trans (hbf h8)) hP hS q1 q2 (lv_sub hl [2, 3, 4, 5, 10, 11, 0] rfl)
      · skip
        refine lv_iconst (v := 5) hx hb dL_law_477 (by decide) ?_
        refine lv_goto (tgt := 483) hx hb dL_law_478 (by decide) ?_
        refine y_lrw (w := WS k h a c σ) (w' := WS k h a c (g_fin n8 σ)) (vx_runSW (As := [.ref h, .int n8, .int 5]) (rest := []) ⟨hx, hb, hml, hown, hts⟩ (c_msg_5 l hl9 G k h a c σ H.size n8 ((hDA σ).weaken (fun _ _ _ _ => trivial)) hJ.1) (vx_cwSW 3 hts gL_law_L_message rfl rfl rfl (by decide +kernel) ⟨Nat.le_of_ble_eq_true rfl, Nat.le_of_ble_eq_true rfl⟩) (yL_pre hS hV hP hK) rfl rfl hl.1 rfl (lv_room (Nat.le_of_ble_eq_true rfl)) dL_law_483 ⟨show cells + 2 ≤ 756716 by omega, show slots + 12 ≤ 6824554 by omega⟩) (hDA σ) hS (fun r H1 locs1 hr9 hP1 hS1 => ?_)
        have hP := hP1
        have hS := hS1
        clear hP1 hS1
        have hr9 : r = f_fin n8 σ := hr9
        subst hr9
        refine lv_istore (lv' := [(12, .int (f_fin n8 σ)), (14, .int (nI mm)), (0, .ref b), (1, .ref h), (2, .int (nI z9)), (3, .int (nI j)), (4, .int (nI v9)), (5, .int (nI w9)), (7, .int (nI σ.2.2.2.2.1)), (8, .int n8), (9, .int isW), (10, .long bf), (13, .int kd)]) hx hb dL_law_486 hl (by decide) rfl (fun ls hl => ?_)
        refine lv_iload hx hb dL_law_488 (lv_at hl 0 rfl) ?_
        refine lv_if_lt (tgt := 723) hx hb dL_law_490 (by decide) (fun c490 => ?_) (fun c490 => ?_)
        · skip
          have q1 : cells + 2 + A ≤ 756716 := by omega
          have q2 : slots + 12 + B ≤ 6824554 := by omega
          exact kt _ _ _ _ _ _ _ (J_fin hJ _) (show σ.2.2.2.2.2 ≤ 7 * (j + 1) by omega) (fun h9 h8 => (congrArg f_sum (lt_fin h9)).trans (hbf h8)) hP hS q1 q2 (lv_sub hl [2, 3, 4, 5, 10, 11, 0] rfl)
        · skip
          have hfc := fin_c hJ c490
          refine lv_iload hx hb dL_law_493 (lv_at hl 12 rfl) ?_
          refine lv_bipush (v := 15) hx hb dL_law_495 (by decide) ?_
          refine lv_icmp_ge (tgt := 515) hx hb dL_law_497 (by decide) (fun c9 => absurd c9 c474) (fun _ => ?_)
          refine lv_aload_n hx hb dL_law_500 rfl (lv_at hl 3 rfl) ?_
          refine lv_iload hx hb dL_law_501 (lv_at hl 9 rfl) ?_
          refine lv_iconst (v := 0) hx hb dL_law_503 (by decide) ?_
          refine y_lro (vx_runSW (As := [.ref h, .int n8, .int 0]) (rest := []) ⟨hx, hb, hml, hown, hts⟩ (c_msg_0 l hl9 G k h a c (g_fin n8 σ) H1.size n8 (J_fin hJ _).1) (vx_cwSW 3 hts gL_law_L_message rfl rfl rfl (by decide +kernel) ⟨Nat.le_of_ble_eq_true rfl, Nat.le_of_ble_eq_true rfl⟩) (yL_pre hS hV hP hK) rfl rfl hl.1 rfl (lv_room (Nat.le_of_ble_eq_true rfl)) dL_law_504 ⟨show cells + 2 + 1 ≤ 756716 by omega, show slots + 12 + 6 ≤ 6824554 by omega⟩) hS (fun r H1 locs1 hr9 hk9 hS1 => ?_)
          have hP := yKeep hP hk9
          have hS := hS1
          clear hk9 hS1
          subst hr9
          refine y_top (hfc) ?_
          refine lv_bipush (v := 100) hx hb dL_law_507 (by decide) ?_
          refine lv_icmp_eq (tgt := 723) hx hb dL_law_509 (by decide) (fun _ => ?_) (fun c9 => absurd c9 (by decide))
          have q1 : cells + 2 + 1 + A ≤ 756716 := by omega
          have q2 : slots + 12 + 6 + B ≤ 6824554 := by omega
          exact kt _ _ _ _ _ _ _ (J_fin hJ _) (show σ.2.2.2.2.2 ≤ 7 * (j + 1) by omega) (fun h9 h8 => (congrArg f_sum (lt_fin h9)).trans (hbf h8)) hP hS q1 q2 (lv_sub hl [2, 3, 4, 5, 10, 11, 0] rfl)
    · skip
      refine lv_aload_n hx hb dL_law_440 rfl (lv_at hl 2 rfl) ?_
      refine lv_iload hx hb dL_law_441 (lv_at hl 0 rfl) ?_
      refine lv_iconst (v := 0) hx hb dL_law_443 (by decide) ?_
      refine y_lro (vx_runSW (As := [.ref h, .int (nI mm), .int 0]) (rest := []) ⟨hx, hb, hml, hown, hts⟩ (c_msg_0 l hl9 G k h a c σ H.size (nI mm) hJ.1) (vx_cwSW 3 hts gL_law_L_message rfl rfl rfl (by decide +kernel) ⟨Nat.le_of_ble_eq_true rfl, Nat.le_of_ble_eq_true rfl⟩) (yL_pre hS hV hP hK) rfl rfl hl.1 rfl (lv_room (Nat.le_of_ble_eq_true rfl)) dL_law_444 ⟨show cells + 1 ≤ 756716 by omega, show slots + 6 ≤ 6824554 by omega⟩) hS (fun r H1 locs1 hr9 hk9 hS1 => ?_)
      have hP := yKeep hP hk9
      have hS := hS1
      clear hk9 hS1
      subst hr9
      refine lv_bipush (v := 116) hx hb dL_law_447 (by decide) ?_
      refine lv_icmp_ne (tgt := 457) hx hb dL_law_449 (by decide) (fun c449 => ?_) (fun c449 => ?_)
      · skip
        refine lv_iload hx hb dL_law_457 (lv_at hl 8 rfl) ?_
        refine lv_istore (lv' := [(8, .int n8), (14, .int (nI mm)), (0, .ref b), (1, .ref h), (2, .int (nI z9)), (3, .int (nI j)), (4, .int (nI v9)), (5, .int (nI w9)), (7, .int (nI σ.2.2.2.2.1)), (9, .int isW), (10, .long bf), (12, .int 0), (13, .int kd)]) hx hb dL_law_459 hl (by decide) rfl (fun ls hl => ?_)
        refine lv_iinc (v := (nI (mm + 1))) (lv' := [(14, .int (nI (mm + 1))), (8, .int n8), (0, .ref b), (1, .ref h), (2, .int (nI z9)), (3, .int (nI j)), (4, .int (nI v9)), (5, .int (nI w9)), (7, .int (nI σ.2.2.2.2.1)), (9, .int isW), (10, .long bf), (12, .int 0), (13, .int kd)]) hx hb dL_law_461 hl (k := 1) rfl (nI_1 mm) (by decide) rfl (fun ls hl => ?_)
        refine lv_goto (tgt := 426) hx hb dL_law_464 (by decide) ?_
        exact ih426 r1 (mm + 1, n8) _ _ _ _ _ (by omega) ⟨(by omega), hP, hS, (Nat.le_trans (by (try dsimp only); omega) hb1), (Nat.le_trans (by (try dsimp only); omega) hb2), lv_sub hl [0, 2, 3, 4, 5, 6, 7, 8, 1, 9, 10, 11, 12] rfl⟩
      · skip
        refine lv_iload hx hb dL_law_452 (lv_at hl 0 rfl) ?_
        refine lv_goto (tgt := 459) hx hb dL_law_454 (by decide) ?_
        refine lv_istore (lv' := [(8, .int (nI mm)), (14, .int (nI mm)), (0, .ref b), (1, .ref h), (2, .int (nI z9)), (3, .int (nI j)), (4, .int (nI v9)), (5, .int (nI w9)), (7, .int (nI σ.2.2.2.2.1)), (9, .int isW), (10, .long bf), (12, .int 0), (13, .int kd)]) hx hb dL_law_459 hl (by decide) rfl (fun ls hl => ?_)
        refine lv_iinc (v := (nI (mm + 1))) (lv' := [(14, .int (nI (mm + 1))), (8, .int (nI mm)), (0, .ref b), (1, .ref h), (2, .int (nI z9)), (3, .int (nI j)), (4, .int (nI v9)), (5, .int (nI w9)), (7, .int (nI σ.2.2.2.2.1)), (9, .int isW), (10, .long bf), (12, .int 0), (13, .int kd)]) hx hb dL_law_461 hl (k := 1) rfl (nI_1 mm) (by decide) rfl (fun ls hl => ?_)
        refine lv_goto (tgt := 426) hx hb dL_law_464 (by decide) ?_
        exact ih426 r1 (mm + 1, nI mm) _ _ _ _ _ (by omega) ⟨(by omega), hP, hS, (Nat.le_trans (by (try dsimp only); omega) hb1), (Nat.le_trans (by (try dsimp only); omega) hb2), lv_sub hl [0, 2, 3, 4, 5, 6, 7, 8, 1, 9, 10, 11, 12] rfl⟩

set_option maxHeartbeats 8000000 in
set_option maxRecDepth 100000 in
theorem law_rev {p : Program} {l : Launch} {e : Env} {s : State} {m : MethodId} {below : List Frame} {meth : Method} {c_ : Code} {b L : Nat} {xs : Nat → Int32} {G : va_G} {k : Nat → ClassId} {h : Nat} {a c : Nat → Nat} (F : LF p l s m meth c_ b L xs G k h a c) {σ : SX} (hJ : yJs σ) {z9 j A B v9 w9 : Nat} {cc nn isW kd : Int32} {bf : Int64} (hj : j < 58) (hd : σ.2.2.2.2.2 ≤ 7 * j) (hw8 : w9 < 5000000) (hbf : ¬ isW = 0 → f_sum σ = bf) (kt : KT p l e s m below meth c_ b G k h a c z9 isW bf j A B) {H : Heap} {locs : List Loc} {cells slots : Nat} {ls : Array Slot} (hP : va_P G vwCl (WS k h a c σ) H) (hS : yO s H locs) (hb1 : cells + (A + 100) ≤ 756716) (hb2 : slots + (B + 600) ≤ 6824554) (hl : lv_has ls 16 [(0, .ref b), (1, .ref h), (2, .int (nI z9)), (3, .int (nI j)), (4, .int (nI v9)), (5, .int (nI w9)), (6, .int cc), (7, .int (nI σ.2.2.2.2.1)), (8, .int nn), (9, .int isW), (10, .long bf), (12, .int 0), (13, .int kd)]) : W p l e room_1 s m #[Value.ref b] below meth c_ H locs cells slots (lw_Z below #[Value.ref b] s) (F0 m 536 ls []) := by
  obtain ⟨hx, hb, hr, hml, hown, hts, hX, hbl, hL, hK, hV, hl9, hlocks, hDA⟩ := F
  have hn0 : σ.2.1 ≤ 8 := J_n0 hJ
  have hn1 : σ.2.2.2.2.1 ≤ 80 := J_n1 hJ
  refine lv_iconst (v := 0) hx hb dL_law_536 (by decide) ?_
  refine lv_istore (lv' := [(14, .int 0), (0, .ref b), (1, .ref h), (2, .int (nI z9)), (3, .int (nI j)), (4, .int (nI v9)), (5, .int (nI w9)), (6, .int cc), (7, .int (nI σ.2.2.2.2.1)), (8, .int nn), (9, .int isW), (10, .long bf), (12, .int 0), (13, .int kd)]) hx hb dL_law_537 hl (by decide) rfl (fun ls hl => ?_)
  have hl : lv_has ls 16 [(14, .int (nI 0)), (0, .ref b), (1, .ref h), (2, .int (nI z9)), (3, .int (nI j)), (4, .int (nI v9)), (5, .int (nI w9)), (7, .int (nI σ.2.2.2.2.1)), (8, .int nn), (9, .int isW), (10, .long bf), (12, .int 0), (13, .int kd)] := lv_sub hl [0, 1, 2, 3, 4, 5, 6, 8, 9, 10, 11, 12, 13] rfl
  refine y_loopC (σ := Nat × Int32) (fun r xσ cells slots H locs ls => xσ.1 + r = σ.2.2.2.2.1 ∧ va_P G vwCl (WS k h a c σ) H ∧ yO s H locs ∧ cells + (1 * r + (A + 10)) ≤ 756716 ∧ slots + (6 * r + (B + 60)) ≤ 6824554 ∧ lv_has ls 16 [(14, .int (nI xσ.1)), (0, .ref b), (1, .ref h), (2, .int (nI z9)), (3, .int (nI j)), (4, .int (nI v9)), (5, .int (nI w9)), (7, .int (nI σ.2.2.2.2.1)), (8, .int xσ.2), (9, .int isW), (10, .long bf), (12, .int 0), (13, .int kd)]) (fun r xσ cells slots H locs ls hI ih539 => ?_) σ.2.2.2.2.1 (0, nn) _ _ _ _ _ ⟨(by omega), hP, hS, (Nat.le_trans (by (try dsimp only); omega) hb1), (Nat.le_trans (by (try dsimp only); omega) hb2), hl⟩
  obtain ⟨mm, n8⟩ := xσ
  obtain ⟨hi, hP, hS, hb1, hb2, hl⟩ := hI
  dsimp only at hi hl
  refine lv_iload hx hb dL_law_539 (lv_at hl 0 rfl) ?_
  refine lv_iload hx hb dL_law_541 (lv_at hl 7 rfl) ?_
  refine lv_icmp_ge (tgt := 573) hx hb dL_law_543 (by decide) (fun c543 => ?_) (fun c543 => ?_)
  · skip
    replace c543 : σ.2.2.2.2.1 ≤ mm := (nI_leI (a := σ.2.2.2.2.1) (b := mm) (by omega) (by omega)).mp c543
    refine lv_aload_n hx hb dL_law_573 rfl (lv_at hl 2 rfl) ?_
    refine lv_iload hx hb dL_law_574 (lv_at hl 8 rfl) ?_
    refine lv_bipush (v := 7) hx hb dL_law_576 (by decide) ?_
    refine y_lrw (w := WS k h a c σ) (w' := WS k h a c (g_rev n8 σ)) (vx_runSW (As := [.ref h, .int n8, .int 7]) (rest := []) ⟨hx, hb, hml, hown, hts⟩ (c_msg_7 l hl9 G k h a c σ H.size n8 ((hDA σ).weaken (fun _ _ _ _ => trivial)) hJ.1) (vx_cwSW 3 hts gL_law_L_message rfl rfl rfl (by decide +kernel) ⟨Nat.le_of_ble_eq_true rfl, Nat.le_of_ble_eq_true rfl⟩) (yL_pre hS hV hP hK) rfl rfl hl.1 rfl (lv_room (Nat.le_of_ble_eq_true rfl)) dL_law_578 ⟨show cells + 2 ≤ 756716 by omega, show slots + 12 ≤ 6824554 by omega⟩) (hDA σ) hS (fun r H1 locs1 hr9 hP1 hS1 => ?_)
    have hP := hP1
    have hS := hS1
    clear hP1 hS1
    have hr9 : r = f_rev n8 σ := hr9
    subst hr9
    refine lv_istore (lv' := [(12, .int (f_rev n8 σ)), (14, .int (nI mm)), (0, .ref b), (1, .ref h), (2, .int (nI z9)), (3, .int (nI j)), (4, .int (nI v9)), (5, .int (nI w9)), (7, .int (nI σ.2.2.2.2.1)), (8, .int n8), (9, .int isW), (10, .long bf), (13, .int kd)]) hx hb dL_law_581 hl (by decide) rfl (fun ls hl => ?_)
    refine lv_iload hx hb dL_law_583 (lv_at hl 0 rfl) ?_
    refine lv_if_lt (tgt := 723) hx hb dL_law_585 (by decide) (fun c585 => ?_) (fun c585 => ?_)
    · skip
      have q1 : cells + 2 + A ≤ 756716 := by omega
      have q2 : slots + 12 + B ≤ 6824554 := by omega
      exact kt _ _ _ _ _ _ _ (J_rev hJ _) (show σ.2.2.2.2.2 ≤ 7 * (j + 1) by omega) (fun h9 h8 => (congrArg f_sum (lt_rev hJ h9)).trans (hbf h8)) hP hS q1 q2 (lv_sub hl [2, 3, 4, 5, 10, 11, 0] rfl)
    · skip
      have hrc := rev_c hJ c585
      refine lv_aload_n hx hb dL_law_588 rfl (lv_at hl 3 rfl) ?_
      refine lv_iload hx hb dL_law_589 (lv_at hl 9 rfl) ?_
      refine lv_iconst (v := 2) hx hb dL_law_591 (by decide) ?_
      refine y_lro (vx_runSW (As := [.ref h, .int n8, .int 2]) (rest := []) ⟨hx, hb, hml, hown, hts⟩ (c_msg_2 l hl9 G k h a c (g_rev n8 σ) H1.size n8 (J_rev hJ _).1) (vx_cwSW 3 hts gL_law_L_message rfl rfl rfl (by decide +kernel) ⟨Nat.le_of_ble_eq_true rfl, Nat.le_of_ble_eq_true rfl⟩) (yL_pre hS hV hP hK) rfl rfl hl.1 rfl (lv_room (Nat.le_of_ble_eq_true rfl)) dL_law_592 ⟨show cells + 2 + 1 ≤ 756716 by omega, show slots + 12 + 6 ≤ 6824554 by omega⟩) hS (fun r H1 locs1 hr9 hk9 hS1 => ?_)
      have hP := yKeep hP hk9
      have hS := hS1
      clear hk9 hS1
      subst hr9
      refine y_top (hrc.1) ?_
      refine lv_if_ne (tgt := 625) hx hb dL_law_595 (by decide) (fun c9 => absurd c9 (by decide)) (fun _ => ?_)
      refine lv_aload_n hx hb dL_law_598 rfl (lv_at hl 3 rfl) ?_
      refine lv_iload hx hb dL_law_599 (lv_at hl 9 rfl) ?_
      refine lv_iconst (v := 3) hx hb dL_law_601 (by decide) ?_
      refine y_lro (vx_runSW (As := [.ref h, .int n8, .int 3]) (rest := []) ⟨hx, hb, hml, hown, hts⟩ (c_msg_3 l hl9 G k h a c (g_rev n8 σ) H1.size n8 (J_rev hJ _).1) (vx_cwSW 3 hts gL_law_L_message rfl rfl rfl (by decide +kernel) ⟨Nat.le_of_ble_eq_true rfl, Nat.le_of_ble_eq_true rfl⟩) (yL_pre hS hV hP hK) rfl rfl hl.1 rfl (lv_room (Nat.le_of_ble_eq_true rfl)) dL_law_602 ⟨show cells + 2 + 1 + 2 ≤ 756716 by omega, show slots + 12 + 6 + 12 ≤ 6824554 by omega⟩) hS (fun r H1 locs1 hr9 hk9 hS1 => ?_)
      have hP := yKeep hP hk9
      have hS := hS1
      clear hk9 hS1
      subst hr9
      refine y_top (hrc.2.1) ?_
      refine lv_aload_n hx hb dL_law_605 rfl (lv_at hl 3 rfl) ?_
      refine y_roV (As := []) (rest := [.int (nI (g_rev n8 σ).2.2.2.2.2)]) ⟨hx, hb, hml, hown, hts⟩ (c_X2_day l G k h a c (g_rev n8 σ).1 (g_rev n8 σ).2.1 (g_rev n8 σ).2.2.1 (g_rev n8 σ).2.2.2.1 (g_rev n8 σ).2.2.2.2.1 (g_rev n8 σ).2.2.2.2.2) (cwV 0 hts gL_law_X2_day rfl rfl rfl (by decide +kernel) ⟨Nat.le_of_ble_eq_true rfl, Nat.le_of_ble_eq_true rfl⟩) hK hP (va_recv hK hP (ci := 4) (q0 := 0) rfl rfl) rfl hl.1 rfl (Nat.le_of_ble_eq_true rfl) dL_law_606 ⟨show cells + 2 + 1 + 2 ≤ 756716 by omega, show slots + 12 + 6 + 12 ≤ 6824554 by omega⟩ (fun r hr9 => ?_)
      subst hr9
      refine lv_icmp_ne (tgt := 625) hx hb dL_law_609 (by decide) (fun c9 => absurd rfl c9) (fun _ => ?_)
      refine lv_aload_n hx hb dL_law_612 rfl (lv_at hl 3 rfl) ?_
      refine lv_bipush (v := 115) hx hb dL_law_613 (by decide) ?_
      refine lv_bipush (v := 120) hx hb dL_law_615 (by decide) ?_
      refine y_lro (vx_runSW (As := [.ref h, .int 115, .int 120]) (rest := []) ⟨hx, hb, hml, hown, hts⟩ (c_cnt l hl9 G k h a c (g_rev n8 σ) H1.size 120 (J_rev hJ _).1 (by decide)) (vx_cwSW 3 hts gL_law_L_told rfl rfl rfl (by decide +kernel) ⟨Nat.le_of_ble_eq_true rfl, Nat.le_of_ble_eq_true rfl⟩) (yL_pre hS hV hP hK) rfl rfl hl.1 rfl (lv_room (Nat.le_of_ble_eq_true rfl)) dL_law_617 ⟨show cells + 2 + 1 + 2 + 1 ≤ 756716 by omega, show slots + 12 + 6 + 12 + 6 ≤ 6824554 by omega⟩) hS (fun r H1 locs1 hr9 hk9 hS1 => ?_)
      have hP := yKeep hP hk9
      have hS := hS1
      clear hk9 hS1
      subst hr9
      refine y_top (hrc.2.2) ?_
      refine lv_iload hx hb dL_law_620 (lv_at hl 0 rfl) ?_
      refine lv_icmp_eq (tgt := 723) hx hb dL_law_622 (by decide) (fun _ => ?_) (fun c9 => absurd rfl c9)
      have q1 : cells + 2 + 1 + 2 + 1 + A ≤ 756716 := by omega
      have q2 : slots + 12 + 6 + 12 + 6 + B ≤ 6824554 := by omega
      exact kt _ _ _ _ _ _ _ (J_rev hJ _) (show σ.2.2.2.2.2 ≤ 7 * (j + 1) by omega) (fun h9 h8 => (congrArg f_sum (lt_rev hJ h9)).trans (hbf h8)) hP hS q1 q2 (lv_sub hl [2, 3, 4, 5, 10, 11, 0] rfl)
  · skip
    have c543 : mm < σ.2.2.2.2.1 := Nat.not_le.mp (fun h9 => c543 ((nI_leI (a := σ.2.2.2.2.1) (b := mm) (by omega) (by omega)).mpr h9))
    obtain ⟨r1, rfl⟩ : ∃ z, r = z + 1 := ⟨r - 1, by omega⟩
    refine lv_aload_n hx hb dL_law_546 rfl (lv_at hl 2 rfl) ?_
    refine lv_iload hx hb dL_law_547 (lv_at hl 0 rfl) ?_
    refine lv_iconst (v := 0) hx hb dL_law_549 (by decide) ?_
    refine y_lro (vx_runSW (As := [.ref h, .int (nI mm), .int 0]) (rest := []) ⟨hx, hb, hml, hown, hts⟩ (c_msg_0 l hl9 G k h a c σ H.size (nI mm) hJ.1) (vx_cwSW 3 hts gL_law_L_message rfl rfl rfl (by decide +kernel) ⟨Nat.le_of_ble_eq_true rfl, Nat.le_of_ble_eq_true rfl⟩) (yL_pre hS hV hP hK) rfl rfl hl.1 rfl (lv_room (Nat.le_of_ble_eq_true rfl)) dL_law_550 ⟨show cells + 1 ≤ 756716 by omega, show slots + 6 ≤ 6824554 by omega⟩) hS (fun r H1 locs1 hr9 hk9 hS1 => ?_)
    have hP := yKeep hP hk9
    have hS := hS1
    clear hk9 hS1
    subst hr9
    refine lv_bipush (v := 120) hx hb dL_law_553 (by decide) ?_
    refine lv_icmp_ne (tgt := 563) hx hb dL_law_555 (by decide) (fun c555 => ?_) (fun c555 => ?_)
    · skip
      refine lv_iload hx hb dL_law_563 (lv_at hl 8 rfl) ?_
      refine lv_istore (lv' := [(8, .int n8), (14, .int (nI mm)), (0, .ref b), (1, .ref h), (2, .int (nI z9)), (3, .int (nI j)), (4, .int (nI v9)), (5, .int (nI w9)), (7, .int (nI σ.2.2.2.2.1)), (9, .int isW), (10, .long bf), (12, .int 0), (13, .int kd)]) hx hb dL_law_565 hl (by decide) rfl (fun ls hl => ?_)
      refine lv_iinc (v := (nI (mm + 1))) (lv' := [(14, .int (nI (mm + 1))), (8, .int n8), (0, .ref b), (1, .ref h), (2, .int (nI z9)), (3, .int (nI j)), (4, .int (nI v9)), (5, .int (nI w9)), (7, .int (nI σ.2.2.2.2.1)), (9, .int isW), (10, .long bf), (12, .int 0), (13, .int kd)]) hx hb dL_law_567 hl (k := 1) rfl (nI_1 mm) (by decide) rfl (fun ls hl => ?_)
      refine lv_goto (tgt := 539) hx hb dL_law_570 (by decide) ?_
      exact ih539 r1 (mm + 1, n8) _ _ _ _ _ (by omega) ⟨(by omega), hP, hS, (Nat.le_trans (by (try dsimp only); omega) hb1), (Nat.le_trans (by (try dsimp only); omega) hb2), lv_sub hl [0, 2, 3, 4, 5, 6, 7, 8, 1, 9, 10, 11, 12] rfl⟩
    · skip
      refine lv_iload hx hb dL_law_558 (lv_at hl 0 rfl) ?_
      refine lv_goto (tgt := 565) hx hb dL_law_560 (by decide) ?_
      refine lv_istore (lv' := [(8, .int (nI mm)), (14, .int (nI mm)), (0, .ref b), (1, .ref h), (2, .int (nI z9)), (3, .int (nI j)), (4, .int (nI v9)), (5, .int (nI w9)), (7, .int (nI σ.2.2.2.2.1)), (9, .int isW), (10, .long bf), (12, .int 0), (13, .int kd)]) hx hb dL_law_565 hl (by decide) rfl (fun ls hl => ?_)
      refine lv_iinc (v := (nI (mm + 1))) (lv' := [(14, .int (nI (mm + 1))), (8, .int (nI mm)), (0, .ref b), (1, .ref h), (2, .int (nI z9)), (3, .int (nI j)), (4, .int (nI v9)), (5, .int (nI w9)), (7, .int (nI σ.2.2.2.2.1)), (9, .int isW), (10, .long bf), (12, .int 0), (13, .int kd)]) hx hb dL_law_567 hl (k := 1) rfl (nI_1 mm) (by decide) rfl (fun ls hl => ?_)
      refine lv_goto (tgt := 539) hx hb dL_law_570 (by decide) ?_
      exact ih539 r1 (mm + 1, nI mm) _ _ _ _ _ (by omega) ⟨(by omega), hP, hS, (Nat.le_trans (by (try dsimp only); omega) hb1), (Nat.le_trans (by (try dsimp only); omega) hb2), lv_sub hl [0, 2, 3, 4, 5, 6, 7, 8, 1, 9, 10, 11, 12] rfl⟩

set_option maxHeartbeats 8000000 in
set_option maxRecDepth 100000 in
theorem law_pass {p : Program} {l : Launch} {e : Env} {s : State} {m : MethodId} {below : List Frame} {meth : Method} {c_ : Code} {b L : Nat} {xs : Nat → Int32} {G : va_G} {k : Nat → ClassId} {h : Nat} {a c : Nat → Nat} (F : LF p l s m meth c_ b L xs G k h a c) {σ : SX} (hJ : yJs σ) {z9 j A B v9 w9 : Nat} {cc nn isW kd : Int32} {bf : Int64} (hj : j < 58) (hd : σ.2.2.2.2.2 ≤ 7 * j) (hw8 : w9 < 5000000) (hbf : ¬ isW = 0 → f_sum σ = bf) (kt : KT p l e s m below meth c_ b G k h a c z9 isW bf j A B) {H : Heap} {locs : List Loc} {cells slots : Nat} {ls : Array Slot} (hP : va_P G vwCl (WS k h a c σ) H) (hS : yO s H locs) (hb1 : cells + (A + 100) ≤ 756716) (hb2 : slots + (B + 600) ≤ 6824554) (hl : lv_has ls 16 [(0, .ref b), (1, .ref h), (2, .int (nI z9)), (3, .int (nI j)), (4, .int (nI v9)), (5, .int (nI w9)), (6, .int cc), (7, .int (nI σ.2.2.2.2.1)), (8, .int nn), (9, .int isW), (10, .long bf), (12, .int 0), (13, .int kd)]) : W p l e room_1 s m #[Value.ref b] below meth c_ H locs cells slots (lw_Z below #[Value.ref b] s) (F0 m 627 ls []) := by
  obtain ⟨hx, hb, hr, hml, hown, hts, hX, hbl, hL, hK, hV, hl9, hlocks, hDA⟩ := F
  have hn0 : σ.2.1 ≤ 8 := J_n0 hJ
  have hn1 : σ.2.2.2.2.1 ≤ 80 := J_n1 hJ
  refine lv_aload_n hx hb dL_law_627 rfl (lv_at hl 1 rfl) ?_
  refine y_roV (As := []) (rest := []) ⟨hx, hb, hml, hown, hts⟩ (c_X2_day l G k h a c σ.1 σ.2.1 σ.2.2.1 σ.2.2.2.1 σ.2.2.2.2.1 σ.2.2.2.2.2) (cwV 0 hts gL_law_X2_day rfl rfl rfl (by decide +kernel) ⟨Nat.le_of_ble_eq_true rfl, Nat.le_of_ble_eq_true rfl⟩) hK hP (va_recv hK hP (ci := 4) (q0 := 0) rfl rfl) rfl hl.1 rfl (Nat.le_of_ble_eq_true rfl) dL_law_628 ⟨show cells ≤ 756716 by omega, show slots ≤ 6824554 by omega⟩ (fun r hr9 => ?_)
  subst hr9
  refine lv_istore (lv' := [(14, .int (nI σ.2.2.2.2.2)), (0, .ref b), (1, .ref h), (2, .int (nI z9)), (3, .int (nI j)), (4, .int (nI v9)), (5, .int (nI w9)), (6, .int cc), (7, .int (nI σ.2.2.2.2.1)), (8, .int nn), (9, .int isW), (10, .long bf), (12, .int 0), (13, .int kd)]) hx hb dL_law_631 hl (by decide) rfl (fun ls hl => ?_)
  refine lv_aload_n hx hb dL_law_633 rfl (lv_at hl 2 rfl) ?_
  refine lv_iload hx hb dL_law_634 (lv_at hl 7 rfl) ?_
  refine lv_iconst (v := 3) hx hb dL_law_636 (by decide) ?_
  refine y_lro (vx_runSW (As := [.ref h, .int cc, .int 3]) (rest := []) ⟨hx, hb, hml, hown, hts⟩ (c_of_3 l hl9 G k h a c σ H.size cc hJ.1) (vx_cwSW 3 hts gL_law_L_of rfl rfl rfl (by decide +kernel) ⟨Nat.le_of_ble_eq_true rfl, Nat.le_of_ble_eq_true rfl⟩) (yL_pre hS hV hP hK) rfl rfl hl.1 rfl (lv_room (Nat.le_of_ble_eq_true rfl)) dL_law_637 ⟨show cells + 2 ≤ 756716 by omega, show slots + 12 ≤ 6824554 by omega⟩) hS (fun r H1 locs1 hr9 hk9 hS1 => ?_)
  have hP := yKeep hP hk9
  have hS := hS1
  clear hk9 hS1
  subst hr9
  refine lv_istore (lv' := [(15, .int (f_of 3 cc σ)), (14, .int (nI σ.2.2.2.2.2)), (0, .ref b), (1, .ref h), (2, .int (nI z9)), (3, .int (nI j)), (4, .int (nI v9)), (5, .int (nI w9)), (6, .int cc), (7, .int (nI σ.2.2.2.2.1)), (8, .int nn), (9, .int isW), (10, .long bf), (12, .int 0), (13, .int kd)]) hx hb dL_law_640 hl (by decide) rfl (fun ls hl => ?_)
  have hp1 := pass_1 hJ (by omega)
  refine lv_aload_n hx hb dL_law_642 rfl (lv_at hl 3 rfl) ?_
  refine lv_bipush (v := 112) hx hb dL_law_643 (by decide) ?_
  refine lv_iconst (v := 1) hx hb dL_law_645 (by decide) ?_
  refine y_lrw (w := WS k h a c σ) (w' := WS k h a c (g_pass 1 σ)) (vx_runSW (As := [.ref h, .int 112, .int 1]) (rest := []) ⟨hx, hb, hml, hown, hts⟩ (c_pass l hl9 G k h a c σ H1.size 1 ((hDA σ).weaken (fun _ _ _ _ => trivial)) hJ.1) (vx_cwSW 3 hts gL_law_L_told rfl rfl rfl (by decide +kernel) ⟨Nat.le_of_ble_eq_true rfl, Nat.le_of_ble_eq_true rfl⟩) (yL_pre hS hV hP hK) rfl rfl hl.1 rfl (lv_room (Nat.le_of_ble_eq_true rfl)) dL_law_646 ⟨show cells + 2 + 1 ≤ 756716 by omega, show slots + 12 + 6 ≤ 6824554 by omega⟩) (hDA σ) hS (fun r H1 locs1 hr9 hP1 hS1 => ?_)
  have hP := hP1
  have hS := hS1
  clear hP1 hS1
  have hr9 : r = f_pass 1 σ := hr9
  subst hr9
  refine lv_istore (lv' := [(12, .int (f_pass 1 σ)), (15, .int (f_of 3 cc σ)), (14, .int (nI σ.2.2.2.2.2)), (0, .ref b), (1, .ref h), (2, .int (nI z9)), (3, .int (nI j)), (4, .int (nI v9)), (5, .int (nI w9)), (6, .int cc), (7, .int (nI σ.2.2.2.2.1)), (8, .int nn), (9, .int isW), (10, .long bf), (13, .int kd)]) hx hb dL_law_649 hl (by decide) rfl (fun ls hl => ?_)
  refine lv_iload hx hb dL_law_651 (lv_at hl 0 rfl) ?_
  refine lv_if_lt (tgt := 706) hx hb dL_law_653 (by decide) (fun c9 => absurd c9 hp1.2.1) (fun _ => ?_)
  refine lv_aload_n hx hb dL_law_656 rfl (lv_at hl 4 rfl) ?_
  refine y_roV (As := []) (rest := []) ⟨hx, hb, hml, hown, hts⟩ (c_X2_day l G k h a c (g_pass 1 σ).1 (g_pass 1 σ).2.1 (g_pass 1 σ).2.2.1 (g_pass 1 σ).2.2.2.1 (g_pass 1 σ).2.2.2.2.1 (g_pass 1 σ).2.2.2.2.2) (cwV 0 hts gL_law_X2_day rfl rfl rfl (by decide +kernel) ⟨Nat.le_of_ble_eq_true rfl, Nat.le_of_ble_eq_true rfl⟩) hK hP (va_recv hK hP (ci := 4) (q0 := 0) rfl rfl) rfl hl.1 rfl (Nat.le_of_ble_eq_true rfl) dL_law_657 ⟨show cells + 2 + 1 ≤ 756716 by omega, show slots + 12 + 6 ≤ 6824554 by omega⟩ (fun r hr9 => ?_)
  subst hr9
  refine lv_iload hx hb dL_law_660 (lv_at hl 2 rfl) ?_
  refine lv_iconst (v := 1) hx hb dL_law_662 (by decide) ?_
  refine lv_iadd hx hb dL_law_663 ?_
  refine lv_icmp_ne (tgt := 706) hx hb dL_law_664 (by decide) (fun c9 => absurd (by rw [hp1.1]; exact (nI_1 _).symm) c9) (fun _ => ?_)
  refine lv_aload_n hx hb dL_law_667 rfl (lv_at hl 4 rfl) ?_
  refine y_lro (va_runS (As := [.ref h]) (rest := []) ⟨hx, hb, hml, hown, hts⟩ (c_messages l hl9 G k h a c (g_pass 1 σ) H1.size hp1.2.2.2) (va_cwS 1 hts gL_law_L_messages rfl rfl rfl (by decide +kernel) ⟨Nat.le_of_ble_eq_true rfl, Nat.le_of_ble_eq_true rfl⟩) (yL_pre hS hV hP hK) rfl rfl hl.1 rfl (lv_room (Nat.le_of_ble_eq_true rfl)) dL_law_668 ⟨show cells + 2 + 1 + 5 ≤ 756716 by omega, show slots + 12 + 6 + 30 ≤ 6824554 by omega⟩) hS (fun r H1 locs1 hr9 hk9 hS1 => ?_)
  have hP := yKeep hP hk9
  have hS := hS1
  clear hk9 hS1
  subst hr9
  refine lv_iload hx hb dL_law_671 (lv_at hl 10 rfl) ?_
  refine lv_iload hx hb dL_law_673 (lv_at hl 0 rfl) ?_
  refine lv_iadd hx hb dL_law_675 ?_
  refine lv_icmp_ne (tgt := 706) hx hb dL_law_676 (by decide) (fun c9 => absurd hp1.2.2.1 c9) (fun _ => ?_)
  refine y_join (pc1 := 708) (ls1 := ls) (st1 := []) (fun (H : Heap) (locs : List Loc) (cells slots : Nat) => va_P G vwCl (WS k h a c (g_pass 1 σ)) H ∧ yO s H locs ∧ cells + (A + 10) ≤ 756716 ∧ slots + (B + 60) ≤ 6824554) (fun H locs cells slots hP9 => ?_) (fun K708 => ?_)
  · obtain ⟨hP, hS, hb1, hb2⟩ := hP9
    refine lv_aload_n hx hb dL_law_708 rfl (lv_at hl 4 rfl) ?_
    refine lv_bipush (v := 112) hx hb dL_law_709 (by decide) ?_
    refine lv_iconst (v := 1) hx hb dL_law_711 (by decide) ?_
    refine lv_iload hx hb dL_law_712 (lv_at hl 8 rfl) ?_
    refine lv_bipush (v := 6) hx hb dL_law_714 (by decide) ?_
    refine lv_irem hx hb dL_law_716 (by decide) ?_
    refine y_top (irem_eq_mod _ _) ?_
    refine y_top ((show nI w9 % 6 = nI (w9 % 6) from by rw [show (6 : Int32) = nI 6 from rfl]; exact nI_md (by omega) (by decide))) ?_
    refine lv_iadd hx hb dL_law_717 ?_
    refine y_top ((show 1 + nI (w9 % 6) = nI (1 + w9 % 6) from by rw [show (1 : Int32) = nI 1 from rfl]; exact nI_add 1 (w9 % 6))) ?_
    refine y_lrw (w := WS k h a c (g_pass 1 σ)) (w' := WS k h a c (g_pass (nI (1 + w9 % 6)) (g_pass 1 σ))) (vx_runSW (As := [.ref h, .int 112, .int (nI (1 + w9 % 6))]) (rest := []) ⟨hx, hb, hml, hown, hts⟩ (c_pass l hl9 G k h a c (g_pass 1 σ) H.size (nI (1 + w9 % 6)) ((hDA (g_pass 1 σ)).weaken (fun _ _ _ _ => trivial)) hp1.2.2.2.1) (vx_cwSW 3 hts gL_law_L_told rfl rfl rfl (by decide +kernel) ⟨Nat.le_of_ble_eq_true rfl, Nat.le_of_ble_eq_true rfl⟩) (yL_pre hS hV hP hK) rfl rfl hl.1 rfl (lv_room (Nat.le_of_ble_eq_true rfl)) dL_law_718 ⟨show cells + 1 ≤ 756716 by omega, show slots + 6 ≤ 6824554 by omega⟩) (hDA (g_pass 1 σ)) hS (fun r H1 locs1 hr9 hP1 hS1 => ?_)
    have hP := hP1
    have hS := hS1
    clear hP1 hS1
    have hr9 : r = f_pass (nI (1 + w9 % 6)) (g_pass 1 σ) := hr9
    subst hr9
    refine lv_istore (lv' := [(12, .int (f_pass (nI (1 + w9 % 6)) (g_pass 1 σ))), (15, .int (f_of 3 cc σ)), (14, .int (nI σ.2.2.2.2.2)), (0, .ref b), (1, .ref h), (2, .int (nI z9)), (3, .int (nI j)), (4, .int (nI v9)), (5, .int (nI w9)), (6, .int cc), (7, .int (nI σ.2.2.2.2.1)), (8, .int nn), (9, .int isW), (10, .long bf), (13, .int kd)]) hx hb dL_law_721 hl (by decide) rfl (fun ls hl => ?_)
    have q1 : cells + 1 + A ≤ 756716 := by omega
    have q2 : slots + 6 + B ≤ 6824554 := by omega
    exact kt _ _ _ _ _ _ _ ((J_pass hp1.2.2.2 (e := 1 + w9 % 6) (by omega) (by omega) (by rw [hp1.1]; omega)).1) (by rw [(J_pass hp1.2.2.2 (e := 1 + w9 % 6) (by omega) (by omega) (by rw [hp1.1]; omega)).2, hp1.1]; omega) (fun h9 => absurd h9 (pass_2 hp1.2.2.2 (e := 1 + w9 % 6) (by omega) (by omega) (by rw [hp1.1]; omega))) hP hS q1 q2 (lv_sub hl [3, 4, 5, 6, 12, 13, 0] rfl)
  refine lv_iload hx hb dL_law_679 (lv_at hl 1 rfl) ?_
  refine lv_if_lt (tgt := 708) hx hb dL_law_681 (by decide) (fun c681 => ?_) (fun c681 => ?_)
  · skip
    exact K708 _ _ _ _ ⟨hP, hS, Nat.le_trans (by omega) hb1, Nat.le_trans (by omega) hb2⟩
  · skip
    refine lv_iload hx hb dL_law_684 (lv_at hl 1 rfl) ?_
    refine lv_iload hx hb dL_law_686 (lv_at hl 2 rfl) ?_
    refine lv_iconst (v := 1) hx hb dL_law_688 (by decide) ?_
    refine lv_iadd hx hb dL_law_689 ?_
    refine lv_icmp_ne (tgt := 708) hx hb dL_law_690 (by decide) (fun c690 => ?_) (fun c690 => ?_)
    · skip
      exact K708 _ _ _ _ ⟨hP, hS, Nat.le_trans (by omega) hb1, Nat.le_trans (by omega) hb2⟩
    · skip
      refine lv_iload hx hb dL_law_693 (lv_at hl 10 rfl) ?_
      refine lv_bipush (v := 70) hx hb dL_law_695 (by decide) ?_
      refine lv_icmp_ge (tgt := 708) hx hb dL_law_697 (by decide) (fun c697 => ?_) (fun c697 => ?_)
      · skip
        exact K708 _ _ _ _ ⟨hP, hS, Nat.le_trans (by omega) hb1, Nat.le_trans (by omega) hb2⟩
      · skip
        refine lv_iload hx hb dL_law_700 (lv_at hl 0 rfl) ?_
        refine lv_iconst (v := 1) hx hb dL_law_702 (by decide) ?_
        refine lv_icmp_ge (tgt := 708) hx hb dL_law_703 (by decide) (fun _ => ?_) (fun c9 => absurd (pass_due2 hJ (by omega) c681 c690 c697) c9)
        exact K708 _ _ _ _ ⟨hP, hS, Nat.le_trans (by omega) hb1, Nat.le_trans (by omega) hb2⟩
