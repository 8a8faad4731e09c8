set_option maxHeartbeats 40000000 in
set_option maxRecDepth 100000 in
theorem c_isSound (l : Launch) (hl9 : l.stackTraces = false) (G : va_G) (k : Nat → ClassId) (h : Nat) (a c : Nat → Nat) (σ : SX) (sz : Nat) (hJ : yJs σ) : Met l yL_isSound wsL_isSound ({ frames := 10, cells := 3600, slots := 21600, locals := 176 }) (va_Pc [.ref h] (yL G (yT k) (WS k h a c σ) sz)) (va_Qi (fun (r : Int32) (_ : Unit) => r = 1) (fun _ _ => True) (fun q : Nat => sz ≤ q)) 3600 21600 (fun q : Nat => sz ≤ q) := by
  refine Met.ofW (cc := cL_isSound) (maxL := 11) (ret := (some .boolean)) (by decide) rfl ?_
  intro p e s m args below meth c_ s₁ B hml hv
  obtain ⟨rfl, hsz, hP0, hK, hV⟩ := hv
  have hx := B.exec
  have hb := B.bytes
  have hr := B.returns
  have hts := atoms_spec (ws := wsL_isSound) B.pre
  have hown : s.vm.findClass RL = some m.cls := findClass_of_methodNamed B.named
  have hlocks := B.notSynchronized
  subst hsz
  have hS : yO s s.heap [] := yO_rf
  have hn0 : σ.2.1 ≤ 8 := J_n0 hJ
  have hn1 : σ.2.2.2.2.1 ≤ 80 := J_n1 hJ
  have hl := lv_entry ([.ref h]) (n := 11) (Nat.le_of_ble_eq_true rfl)
  rw [lg_entry_eq]
  generalize (lg_sl ([.ref h]) ++ List.replicate (11 - (lg_sl ([.ref h])).length) Slot.unset).toArray = ls at hl ⊢
  have hl : lv_has ls 11 [(0, .ref h)] := hl
  refine lv_aload_n hx hb dL_isSound_0 rfl (lv_at hl 0 rfl) ?_
  refine y_lro (va_runS (As := [.ref h]) (rest := []) ⟨hx, hb, hml, hown, hts⟩ (c_messages l hl9 G k h a c σ s.heap.size hJ) (va_cwS 1 hts gL_isSound_L_messages rfl rfl rfl (by decide +kernel) ⟨Nat.le_of_ble_eq_true rfl, Nat.le_of_ble_eq_true rfl⟩) (yL_pre hS hV (yKeep hP0 (yO_k hS)) hK) rfl rfl hl.1 rfl (lv_room (Nat.le_of_ble_eq_true rfl)) dL_isSound_1 ⟨show 0 + 5 ≤ 3600 by omega, show 0 + 30 ≤ 21600 by omega⟩) hS (fun r H1 locs1 hr9 hk9 hS1 => ?_)
  have hS := hS1
  clear hk9 hS1
  subst hr9
  refine lv_istore_n (lv' := [(1, .int (nI σ.2.2.2.2.1)), (0, .ref h)]) hx hb dL_isSound_4 rfl hl (by decide) rfl (fun ls hl => ?_)
  refine lv_aload_n hx hb dL_isSound_5 rfl (lv_at hl 1 rfl) ?_
  refine y_lro (va_runS (As := [.ref h]) (rest := []) ⟨hx, hb, hml, hown, hts⟩ (c_cases l hl9 G k h a c σ H1.size hJ) (va_cwS 1 hts gL_isSound_L_cases rfl rfl rfl (by decide +kernel) ⟨Nat.le_of_ble_eq_true rfl, Nat.le_of_ble_eq_true rfl⟩) (yL_pre hS hV (yKeep hP0 (yO_k hS)) hK) rfl rfl hl.1 rfl (lv_room (Nat.le_of_ble_eq_true rfl)) dL_isSound_6 ⟨show 0 + 5 + 9 ≤ 3600 by omega, show 0 + 30 + 54 ≤ 21600 by omega⟩) hS (fun r H1 locs1 hr9 hk9 hS1 => ?_)
  have hS := hS1
  clear hk9 hS1
  subst hr9
  refine lv_istore_n (lv' := [(2, .int (nI σ.2.1)), (1, .int (nI σ.2.2.2.2.1)), (0, .ref h)]) hx hb dL_isSound_9 rfl hl (by decide) rfl (fun ls hl => ?_)
  refine lv_iload_n hx hb dL_isSound_10 rfl (lv_at hl 1 rfl) ?_
  refine lv_bipush (v := 80) hx hb dL_isSound_11 (by decide) ?_
  refine lv_icmp_gt (tgt := 43) hx hb dL_isSound_13 (by decide) (fun c9 => absurd c9 (J_le80 hJ)) (fun _ => ?_)
  refine y_join (pc1 := 31) (ls1 := ls) (st1 := []) (fun (H : Heap) (locs : List Loc) (cells slots : Nat) => yO s H locs ∧ cells + 3550 ≤ 3600 ∧ slots + 21300 ≤ 21600) (fun H locs cells slots hP9 => ?_) (fun K31 => ?_)
  · obtain ⟨hS, hb1, hb2⟩ := hP9
    refine lv_aload_n hx hb dL_isSound_31 rfl (lv_at hl 2 rfl) ?_
    refine lv_iload_n hx hb dL_isSound_32 rfl (lv_at hl 1 rfl) ?_
    refine lv_iconst (v := 0) hx hb dL_isSound_33 (by decide) ?_
    refine y_lro (vx_runSW (As := [.ref h, .int (nI σ.2.2.2.2.1), .int 0]) (rest := []) ⟨hx, hb, hml, hown, hts⟩ (c_msg_0 l hl9 G k h a c σ H.size (nI σ.2.2.2.2.1) hJ.1) (vx_cwSW 3 hts gL_isSound_L_message rfl rfl rfl (by decide +kernel) ⟨Nat.le_of_ble_eq_true rfl, Nat.le_of_ble_eq_true rfl⟩) (yL_pre hS hV (yKeep hP0 (yO_k hS)) hK) rfl rfl hl.1 rfl (lv_room (Nat.le_of_ble_eq_true rfl)) dL_isSound_34 ⟨show cells + 1 ≤ 3600 by omega, show slots + 6 ≤ 21600 by omega⟩) hS (fun r H1 locs1 hr9 hk9 hS1 => ?_)
    have hS := hS1
    clear hk9 hS1
    subst hr9
    refine y_top (msg_x (by decide) (inR_n (by omega))) ?_
    refine lv_sipush (v := (-1001)) hx hb dL_isSound_37 (by decide) ?_
    refine lv_icmp_eq (tgt := 45) hx hb dL_isSound_40 (by decide) (fun _ => ?_) (fun c9 => absurd c9 (by decide))
    refine lv_iconst (v := 0) hx hb dL_isSound_45 (by decide) ?_
    refine lv_istore_n (lv' := [(3, .int 0), (2, .int (nI σ.2.1)), (1, .int (nI σ.2.2.2.2.1)), (0, .ref h)]) hx hb dL_isSound_46 rfl hl (by decide) rfl (fun ls hl => ?_)
    refine lv_iconst (v := 0) hx hb dL_isSound_47 (by decide) ?_
    refine lv_istore (lv' := [(4, .int 0), (3, .int 0), (2, .int (nI σ.2.1)), (1, .int (nI σ.2.2.2.2.1)), (0, .ref h)]) hx hb dL_isSound_48 hl (by decide) rfl (fun ls hl => ?_)
    refine lv_iload hx hb dL_isSound_50 (lv_at hl 0 rfl) ?_
    refine lv_iconst (v := 4) hx hb dL_isSound_52 (by decide) ?_
    refine lv_icmp_ge (tgt := 90) hx hb dL_isSound_53 (by decide) (fun c9 => absurd c9 (by decide)) (fun _ => ?_)
    refine lv_aload_n hx hb dL_isSound_56 rfl (lv_at hl 4 rfl) ?_
    refine lv_bipush (v := 99) hx hb dL_isSound_57 (by decide) ?_
    refine lv_iload hx hb dL_isSound_59 (lv_at hl 0 rfl) ?_
    refine y_lro (vx_runSW (As := [.ref h, .int 99, .int 0]) (rest := []) ⟨hx, hb, hml, hown, hts⟩ (c_has l hl9 G k h a c σ H1.size 0 hJ.1) (vx_cwSW 3 hts gL_isSound_L_told rfl rfl rfl (by decide +kernel) ⟨Nat.le_of_ble_eq_true rfl, Nat.le_of_ble_eq_true rfl⟩) (yL_pre hS hV (yKeep hP0 (yO_k hS)) hK) rfl rfl hl.1 rfl (lv_room (Nat.le_of_ble_eq_true rfl)) dL_isSound_61 ⟨show cells + 1 + 1 ≤ 3600 by omega, show slots + 6 + 6 ≤ 21600 by omega⟩) hS (fun r H1 locs1 hr9 hk9 hS1 => ?_)
    have hS := hS1
    clear hk9 hS1
    subst hr9
    refine lv_istore (lv' := [(5, .int (f_has 0 σ)), (4, .int 0), (3, .int 0), (2, .int (nI σ.2.1)), (1, .int (nI σ.2.2.2.2.1)), (0, .ref h)]) hx hb dL_isSound_64 hl (by decide) rfl (fun ls hl => ?_)
    refine lv_iload_n hx hb dL_isSound_66 rfl (lv_at hl 2 rfl) ?_
    refine lv_iload hx hb dL_isSound_67 (lv_at hl 0 rfl) ?_
    refine lv_iadd hx hb dL_isSound_69 ?_
    refine lv_istore_n (lv' := [(3, .int (0 + (f_has 0 σ))), (5, .int (f_has 0 σ)), (4, .int 0), (2, .int (nI σ.2.1)), (1, .int (nI σ.2.2.2.2.1)), (0, .ref h)]) hx hb dL_isSound_70 rfl hl (by decide) rfl (fun ls hl => ?_)
    refine lv_iload hx hb dL_isSound_71 (lv_at hl 1 rfl) ?_
    refine lv_if_lt (tgt := 82) hx hb dL_isSound_73 (by decide) (fun c9 => absurd c9 ((J_has hJ (by decide)).1)) (fun _ => ?_)
    refine lv_iload hx hb dL_isSound_76 (lv_at hl 1 rfl) ?_
    refine lv_iconst (v := 2) hx hb dL_isSound_78 (by decide) ?_
    refine lv_icmp_le (tgt := 84) hx hb dL_isSound_79 (by decide) (fun _ => ?_) (fun c9 => absurd ((J_has hJ (by decide)).2) c9)
    refine lv_iinc (v := 1) (lv' := [(4, .int 1), (3, .int (0 + (f_has 0 σ))), (5, .int (f_has 0 σ)), (2, .int (nI σ.2.1)), (1, .int (nI σ.2.2.2.2.1)), (0, .ref h)]) hx hb dL_isSound_84 hl (k := 2) rfl (by decide) (by decide) rfl (fun ls hl => ?_)
    refine lv_goto (tgt := 50) hx hb dL_isSound_87 (by decide) ?_
    refine lv_iload hx hb dL_isSound_50 (lv_at hl 0 rfl) ?_
    refine lv_iconst (v := 4) hx hb dL_isSound_52 (by decide) ?_
    refine lv_icmp_ge (tgt := 90) hx hb dL_isSound_53 (by decide) (fun c9 => absurd c9 (by decide)) (fun _ => ?_)
    refine lv_aload_n hx hb dL_isSound_56 rfl (lv_at hl 5 rfl) ?_
    refine lv_bipush (v := 99) hx hb dL_isSound_57 (by decide) ?_
    refine lv_iload hx hb dL_isSound_59 (lv_at hl 0 rfl) ?_
    refine y_lro (vx_runSW (As := [.ref h, .int 99, .int 1]) (rest := []) ⟨hx, hb, hml, hown, hts⟩ (c_has l hl9 G k h a c σ H1.size 1 hJ.1) (vx_cwSW 3 hts gL_isSound_L_told rfl rfl rfl (by decide +kernel) ⟨Nat.le_of_ble_eq_true rfl, Nat.le_of_ble_eq_true rfl⟩) (yL_pre hS hV (yKeep hP0 (yO_k hS)) hK) rfl rfl hl.1 rfl (lv_room (Nat.le_of_ble_eq_true rfl)) dL_isSound_61 ⟨show cells + 1 + 1 + 1 ≤ 3600 by omega, show slots + 6 + 6 + 6 ≤ 21600 by omega⟩) hS (fun r H1 locs1 hr9 hk9 hS1 => ?_)
    have hS := hS1
    clear hk9 hS1
    subst hr9
    refine lv_istore (lv' := [(5, .int (f_has 1 σ)), (4, .int 1), (3, .int (0 + (f_has 0 σ))), (2, .int (nI σ.2.1)), (1, .int (nI σ.2.2.2.2.1)), (0, .ref h)]) hx hb dL_isSound_64 hl (by decide) rfl (fun ls hl => ?_)
    refine lv_iload_n hx hb dL_isSound_66 rfl (lv_at hl 2 rfl) ?_
    refine lv_iload hx hb dL_isSound_67 (lv_at hl 0 rfl) ?_
    refine lv_iadd hx hb dL_isSound_69 ?_
    refine lv_istore_n (lv' := [(3, .int ((0 + (f_has 0 σ)) + (f_has 1 σ))), (5, .int (f_has 1 σ)), (4, .int 1), (2, .int (nI σ.2.1)), (1, .int (nI σ.2.2.2.2.1)), (0, .ref h)]) hx hb dL_isSound_70 rfl hl (by decide) rfl (fun ls hl => ?_)
    refine lv_iload hx hb dL_isSound_71 (lv_at hl 1 rfl) ?_
    refine lv_if_lt (tgt := 82) hx hb dL_isSound_73 (by decide) (fun c9 => absurd c9 ((J_has hJ (by decide)).1)) (fun _ => ?_)
    refine lv_iload hx hb dL_isSound_76 (lv_at hl 1 rfl) ?_
    refine lv_iconst (v := 2) hx hb dL_isSound_78 (by decide) ?_
    refine lv_icmp_le (tgt := 84) hx hb dL_isSound_79 (by decide) (fun _ => ?_) (fun c9 => absurd ((J_has hJ (by decide)).2) c9)
    refine lv_iinc (v := 2) (lv' := [(4, .int 2), (3, .int ((0 + (f_has 0 σ)) + (f_has 1 σ))), (5, .int (f_has 1 σ)), (2, .int (nI σ.2.1)), (1, .int (nI σ.2.2.2.2.1)), (0, .ref h)]) hx hb dL_isSound_84 hl (k := 2) rfl (by decide) (by decide) rfl (fun ls hl => ?_)
    refine lv_goto (tgt := 50) hx hb dL_isSound_87 (by decide) ?_
    refine lv_iload hx hb dL_isSound_50 (lv_at hl 0 rfl) ?_
    refine lv_iconst (v := 4) hx hb dL_isSound_52 (by decide) ?_
    refine lv_icmp_ge (tgt := 90) hx hb dL_isSound_53 (by decide) (fun c9 => absurd c9 (by decide)) (fun _ => ?_)
    refine lv_aload_n hx hb dL_isSound_56 rfl (lv_at hl 5 rfl) ?_
    refine lv_bipush (v := 99) hx hb dL_isSound_57 (by decide) ?_
    refine lv_iload hx hb dL_isSound_59 (lv_at hl 0 rfl) ?_
    refine y_lro (vx_runSW (As := [.ref h, .int 99, .int 2]) (rest := []) ⟨hx, hb, hml, hown, hts⟩ (c_has l hl9 G k h a c σ H1.size 2 hJ.1) (vx_cwSW 3 hts gL_isSound_L_told rfl rfl rfl (by decide +kernel) ⟨Nat.le_of_ble_eq_true rfl, Nat.le_of_ble_eq_true rfl⟩) (yL_pre hS hV (yKeep hP0 (yO_k hS)) hK) rfl rfl hl.1 rfl (lv_room (Nat.le_of_ble_eq_true rfl)) dL_isSound_61 ⟨show cells + 1 + 1 + 1 + 1 ≤ 3600 by omega, show slots + 6 + 6 + 6 + 6 ≤ 21600 by omega⟩) hS (fun r H1 locs1 hr9 hk9 hS1 => ?_)
    have hS := hS1
    clear hk9 hS1
    subst hr9
    refine lv_istore (lv' := [(5, .int (f_has 2 σ)), (4, .int 2), (3, .int ((0 + (f_has 0 σ)) + (f_has 1 σ))), (2, .int (nI σ.2.1)), (1, .int (nI σ.2.2.2.2.1)), (0, .ref h)]) hx hb dL_isSound_64 hl (by decide) rfl (fun ls hl => ?_)
    refine lv_iload_n hx hb dL_isSound_66 rfl (lv_at hl 2 rfl) ?_
    refine lv_iload hx hb dL_isSound_67 (lv_at hl 0 rfl) ?_
    refine lv_iadd hx hb dL_isSound_69 ?_
    refine lv_istore_n (lv' := [(3, .int (((0 + (f_has 0 σ)) + (f_has 1 σ)) + (f_has 2 σ))), (5, .int (f_has 2 σ)), (4, .int 2), (2, .int (nI σ.2.1)), (1, .int (nI σ.2.2.2.2.1)), (0, .ref h)]) hx hb dL_isSound_70 rfl hl (by decide) rfl (fun ls hl => ?_)
    refine lv_iload hx hb dL_isSound_71 (lv_at hl 1 rfl) ?_
    refine lv_if_lt (tgt := 82) hx hb dL_isSound_73 (by decide) (fun c9 => absurd c9 ((J_has hJ (by decide)).1)) (fun _ => ?_)
    refine lv_iload hx hb dL_isSound_76 (lv_at hl 1 rfl) ?_
    refine lv_iconst (v := 2) hx hb dL_isSound_78 (by decide) ?_
    refine lv_icmp_le (tgt := 84) hx hb dL_isSound_79 (by decide) (fun _ => ?_) (fun c9 => absurd ((J_has hJ (by decide)).2) c9)
    refine lv_iinc (v := 3) (lv' := [(4, .int 3), (3, .int (((0 + (f_has 0 σ)) + (f_has 1 σ)) + (f_has 2 σ))), (5, .int (f_has 2 σ)), (2, .int (nI σ.2.1)), (1, .int (nI σ.2.2.2.2.1)), (0, .ref h)]) hx hb dL_isSound_84 hl (k := 2) rfl (by decide) (by decide) rfl (fun ls hl => ?_)
    refine lv_goto (tgt := 50) hx hb dL_isSound_87 (by decide) ?_
    refine lv_iload hx hb dL_isSound_50 (lv_at hl 0 rfl) ?_
    refine lv_iconst (v := 4) hx hb dL_isSound_52 (by decide) ?_
    refine lv_icmp_ge (tgt := 90) hx hb dL_isSound_53 (by decide) (fun c9 => absurd c9 (by decide)) (fun _ => ?_)
    refine lv_aload_n hx hb dL_isSound_56 rfl (lv_at hl 5 rfl) ?_
    refine lv_bipush (v := 99) hx hb dL_isSound_57 (by decide) ?_
    refine lv_iload hx hb dL_isSound_59 (lv_at hl 0 rfl) ?_
    refine y_lro (vx_runSW (As := [.ref h, .int 99, .int 3]) (rest := []) ⟨hx, hb, hml, hown, hts⟩ (c_has l hl9 G k h a c σ H1.size 3 hJ.1) (vx_cwSW 3 hts gL_isSound_L_told rfl rfl rfl (by decide +kernel) ⟨Nat.le_of_ble_eq_true rfl, Nat.le_of_ble_eq_true rfl⟩) (yL_pre hS hV (yKeep hP0 (yO_k hS)) hK) rfl rfl hl.1 rfl (lv_room (Nat.le_of_ble_eq_true rfl)) dL_isSound_61 ⟨show cells + 1 + 1 + 1 + 1 + 1 ≤ 3600 by omega, show slots + 6 + 6 + 6 + 6 + 6 ≤ 21600 by omega⟩) hS (fun r H1 locs1 hr9 hk9 hS1 => ?_)
    have hS := hS1
    clear hk9 hS1
    subst hr9
    refine lv_istore (lv' := [(5, .int (f_has 3 σ)), (4, .int 3), (3, .int (((0 + (f_has 0 σ)) + (f_has 1 σ)) + (f_has 2 σ))), (2, .int (nI σ.2.1)), (1, .int (nI σ.2.2.2.2.1)), (0, .ref h)]) hx hb dL_isSound_64 hl (by decide) rfl (fun ls hl => ?_)
    refine lv_iload_n hx hb dL_isSound_66 rfl (lv_at hl 2 rfl) ?_
    refine lv_iload hx hb dL_isSound_67 (lv_at hl 0 rfl) ?_
    refine lv_iadd hx hb dL_isSound_69 ?_
    refine lv_istore_n (lv' := [(3, .int ((((0 + (f_has 0 σ)) + (f_has 1 σ)) + (f_has 2 σ)) + (f_has 3 σ))), (5, .int (f_has 3 σ)), (4, .int 3), (2, .int (nI σ.2.1)), (1, .int (nI σ.2.2.2.2.1)), (0, .ref h)]) hx hb dL_isSound_70 rfl hl (by decide) rfl (fun ls hl => ?_)
    refine lv_iload hx hb dL_isSound_71 (lv_at hl 1 rfl) ?_
    refine lv_if_lt (tgt := 82) hx hb dL_isSound_73 (by decide) (fun c9 => absurd c9 ((J_has hJ (by decide)).1)) (fun _ => ?_)
    refine lv_iload hx hb dL_isSound_76 (lv_at hl 1 rfl) ?_
    refine lv_iconst (v := 2) hx hb dL_isSound_78 (by decide) ?_
    refine lv_icmp_le (tgt := 84) hx hb dL_isSound_79 (by decide) (fun _ => ?_) (fun c9 => absurd ((J_has hJ (by decide)).2) c9)
    refine lv_iinc (v := 4) (lv' := [(4, .int 4), (3, .int ((((0 + (f_has 0 σ)) + (f_has 1 σ)) + (f_has 2 σ)) + (f_has 3 σ))), (5, .int (f_has 3 σ)), (2, .int (nI σ.2.1)), (1, .int (nI σ.2.2.2.2.1)), (0, .ref h)]) hx hb dL_isSound_84 hl (k := 2) rfl (by decide) (by decide) rfl (fun ls hl => ?_)
    refine lv_goto (tgt := 50) hx hb dL_isSound_87 (by decide) ?_
    refine lv_iload hx hb dL_isSound_50 (lv_at hl 0 rfl) ?_
    refine lv_iconst (v := 4) hx hb dL_isSound_52 (by decide) ?_
    refine lv_icmp_ge (tgt := 90) hx hb dL_isSound_53 (by decide) (fun _ => ?_) (fun c9 => absurd c9 (by decide))
    refine lv_iconst (v := 0) hx hb dL_isSound_90 (by decide) ?_
    refine lv_istore (lv' := [(4, .int 0), (3, .int ((((0 + (f_has 0 σ)) + (f_has 1 σ)) + (f_has 2 σ)) + (f_has 3 σ))), (5, .int (f_has 3 σ)), (2, .int (nI σ.2.1)), (1, .int (nI σ.2.2.2.2.1)), (0, .ref h)]) hx hb dL_isSound_91 hl (by decide) rfl (fun ls hl => ?_)
    have hl : lv_has ls 11 [(4, .int (nI 0)), (3, .int ((((0 + (f_has 0 σ)) + (f_has 1 σ)) + (f_has 2 σ)) + (f_has 3 σ))), (2, .int (nI σ.2.1)), (1, .int (nI σ.2.2.2.2.1)), (0, .ref h)] := lv_sub hl [0, 1, 3, 4, 5] rfl
    refine y_loopC (σ := Nat) (fun r xσ cells slots H locs ls => xσ + r = σ.2.2.2.2.1 ∧ yO s H locs ∧ cells + (9 * r + 2800) ≤ 3600 ∧ slots + (54 * r + 16800) ≤ 21600 ∧ lv_has ls 11 [(4, .int (nI xσ)), (3, .int ((((0 + (f_has 0 σ)) + (f_has 1 σ)) + (f_has 2 σ)) + (f_has 3 σ))), (2, .int (nI σ.2.1)), (1, .int (nI σ.2.2.2.2.1)), (0, .ref h)]) (fun r xσ cells slots H locs ls hI ih93 => ?_) σ.2.2.2.2.1 0 _ _ _ _ _ ⟨(by omega), hS, (by (try dsimp only); omega), (by (try dsimp only); omega), hl⟩
    obtain ⟨i, rfl⟩ : ∃ z, z = xσ := ⟨xσ, rfl⟩
    obtain ⟨hi, hS, hb1, hb2, hl⟩ := hI
    refine lv_iload hx hb dL_isSound_93 (lv_at hl 0 rfl) ?_
    refine lv_iload_n hx hb dL_isSound_95 rfl (lv_at hl 3 rfl) ?_
    refine lv_icmp_ge (tgt := 258) hx hb dL_isSound_96 (by decide) (fun c96 => ?_) (fun c96 => ?_)
    · skip
      replace c96 : σ.2.2.2.2.1 ≤ i := (nI_leI (a := σ.2.2.2.2.1) (b := i) (by omega) (by omega)).mp c96
      refine lv_iconst (v := 0) hx hb dL_isSound_258 (by decide) ?_
      refine lv_istore (lv' := [(4, .int 0), (3, .int ((((0 + (f_has 0 σ)) + (f_has 1 σ)) + (f_has 2 σ)) + (f_has 3 σ))), (2, .int (nI σ.2.1)), (1, .int (nI σ.2.2.2.2.1)), (0, .ref h)]) hx hb dL_isSound_259 hl (by decide) rfl (fun ls hl => ?_)
      refine lv_iconst (v := 0) hx hb dL_isSound_261 (by decide) ?_
      refine lv_istore (lv' := [(5, .int 0), (4, .int 0), (3, .int ((((0 + (f_has 0 σ)) + (f_has 1 σ)) + (f_has 2 σ)) + (f_has 3 σ))), (2, .int (nI σ.2.1)), (1, .int (nI σ.2.2.2.2.1)), (0, .ref h)]) hx hb dL_isSound_262 hl (by decide) rfl (fun ls hl => ?_)
      refine lv_iload hx hb dL_isSound_264 (lv_at hl 0 rfl) ?_
      refine lv_iconst (v := 3) hx hb dL_isSound_266 (by decide) ?_
      refine lv_icmp_ge (tgt := 396) hx hb dL_isSound_267 (by decide) (fun c9 => absurd c9 (by decide)) (fun _ => ?_)
      refine lv_aload_n hx hb dL_isSound_270 rfl (lv_at hl 5 rfl) ?_
      refine lv_iload hx hb dL_isSound_271 (lv_at hl 0 rfl) ?_
      refine lv_iconst (v := (-1)) hx hb dL_isSound_273 (by decide) ?_
      refine y_lro (vx_runSW (As := [.ref h, .int 0, .int (-1)]) (rest := []) ⟨hx, hb, hml, hown, hts⟩ (c_rdy l hl9 G k h a c σ H.size 0 hJ.1) (vx_cwSW 3 hts gL_isSound_L_ready rfl rfl rfl (by decide +kernel) ⟨Nat.le_of_ble_eq_true rfl, Nat.le_of_ble_eq_true rfl⟩) (yL_pre hS hV (yKeep hP0 (yO_k hS)) hK) rfl rfl hl.1 rfl (lv_room (Nat.le_of_ble_eq_true rfl)) dL_isSound_274 ⟨show cells + 1 ≤ 3600 by omega, show slots + 6 ≤ 21600 by omega⟩) hS (fun r H1 locs1 hr9 hk9 hS1 => ?_)
      have hS := hS1
      clear hk9 hS1
      subst hr9
      refine y_top (rdy_v (by decide)) ?_
      refine lv_istore (lv' := [(6, .int (nI (crd σ.2.2.1 0 (nI σ.2.2.2.2.2) σ.2.2.2.2.1))), (5, .int 0), (4, .int 0), (3, .int ((((0 + (f_has 0 σ)) + (f_has 1 σ)) + (f_has 2 σ)) + (f_has 3 σ))), (2, .int (nI σ.2.1)), (1, .int (nI σ.2.2.2.2.1)), (0, .ref h)]) hx hb dL_isSound_277 hl (by decide) rfl (fun ls hl => ?_)
      refine lv_iconst (v := (-1)) hx hb dL_isSound_279 (by decide) ?_
      refine lv_istore (lv' := [(7, .int (-1)), (6, .int (nI (crd σ.2.2.1 0 (nI σ.2.2.2.2.2) σ.2.2.2.2.1))), (5, .int 0), (4, .int 0), (3, .int ((((0 + (f_has 0 σ)) + (f_has 1 σ)) + (f_has 2 σ)) + (f_has 3 σ))), (2, .int (nI σ.2.1)), (1, .int (nI σ.2.2.2.2.1)), (0, .ref h)]) hx hb dL_isSound_280 hl (by decide) rfl (fun ls hl => ?_)
      refine lv_iconst (v := (-1)) hx hb dL_isSound_282 (by decide) ?_
      refine lv_istore (lv' := [(8, .int (-1)), (7, .int (-1)), (6, .int (nI (crd σ.2.2.1 0 (nI σ.2.2.2.2.2) σ.2.2.2.2.1))), (5, .int 0), (4, .int 0), (3, .int ((((0 + (f_has 0 σ)) + (f_has 1 σ)) + (f_has 2 σ)) + (f_has 3 σ))), (2, .int (nI σ.2.1)), (1, .int (nI σ.2.2.2.2.1)), (0, .ref h)]) hx hb dL_isSound_283 hl (by decide) rfl (fun ls hl => ?_)
      refine lv_iconst (v := 0) hx hb dL_isSound_285 (by decide) ?_
      refine lv_istore (lv' := [(9, .int 0), (8, .int (-1)), (7, .int (-1)), (6, .int (nI (crd σ.2.2.1 0 (nI σ.2.2.2.2.2) σ.2.2.2.2.1))), (5, .int 0), (4, .int 0), (3, .int ((((0 + (f_has 0 σ)) + (f_has 1 σ)) + (f_has 2 σ)) + (f_has 3 σ))), (2, .int (nI σ.2.1)), (1, .int (nI σ.2.2.2.2.1)), (0, .ref h)]) hx hb dL_isSound_286 hl (by decide) rfl (fun ls hl => ?_)
      have hcr : crd σ.2.2.1 0 (nI σ.2.2.2.2.2) σ.2.2.2.2.1 ≤ 80 := J_crd hJ
      have hl : lv_has ls 11 [(9, .int (nI 0)), (8, .int (-1)), (7, .int (-1)), (6, .int (nI (crd σ.2.2.1 0 (nI σ.2.2.2.2.2) σ.2.2.2.2.1))), (5, .int 0), (4, .int 0), (3, .int ((((0 + (f_has 0 σ)) + (f_has 1 σ)) + (f_has 2 σ)) + (f_has 3 σ))), (2, .int (nI σ.2.1)), (1, .int (nI σ.2.2.2.2.1)), (0, .ref h)] := lv_sub hl [0, 1, 2, 3, 4, 5, 6, 7, 8, 9] rfl
      refine y_loopC (σ := Nat × Int32 × Int32) (fun r xσ cells slots H locs ls => xσ.1 + r = crd σ.2.2.1 0 (nI σ.2.2.2.2.2) σ.2.2.2.2.1 ∧ rdI σ 0 xσ.1 xσ.2.1 xσ.2.2 ∧ yO s H locs ∧ cells + (11 * r + 1912) ≤ 3600 ∧ slots + (66 * r + 11472) ≤ 21600 ∧ lv_has ls 11 [(9, .int (nI xσ.1)), (8, .int xσ.2.2), (7, .int xσ.2.1), (6, .int (nI (crd σ.2.2.1 0 (nI σ.2.2.2.2.2) σ.2.2.2.2.1))), (5, .int 0), (4, .int 0), (3, .int ((((0 + (f_has 0 σ)) + (f_has 1 σ)) + (f_has 2 σ)) + (f_has 3 σ))), (2, .int (nI σ.2.1)), (1, .int (nI σ.2.2.2.2.1)), (0, .ref h)]) (fun r xσ cells slots H locs ls hI ih288 => ?_) (crd σ.2.2.1 0 (nI σ.2.2.2.2.2) σ.2.2.2.2.1) (0, -1, -1) _ _ _ _ _ ⟨(by omega), (Or.inl ⟨rfl, rfl, rfl⟩), hS, (by (try dsimp only); omega), (by (try dsimp only); omega), hl⟩
      obtain ⟨kk, dy, la⟩ := xσ
      obtain ⟨hk, hrd, hS, hb1, hb2, hl⟩ := hI
      dsimp only at hk hrd hl
      refine lv_iload hx hb dL_isSound_288 (lv_at hl 0 rfl) ?_
      refine lv_iload hx hb dL_isSound_290 (lv_at hl 3 rfl) ?_
      refine lv_icmp_ge (tgt := 383) hx hb dL_isSound_292 (by decide) (fun c292 => ?_) (fun c292 => ?_)
      · skip
        refine lv_iload hx hb dL_isSound_383 (lv_at hl 5 rfl) ?_
        refine lv_iload hx hb dL_isSound_385 (lv_at hl 3 rfl) ?_
        refine lv_iadd hx hb dL_isSound_387 ?_
        refine lv_istore (lv' := [(4, .int (0 + (nI (crd σ.2.2.1 0 (nI σ.2.2.2.2.2) σ.2.2.2.2.1)))), (9, .int (nI kk)), (8, .int la), (7, .int dy), (6, .int (nI (crd σ.2.2.1 0 (nI σ.2.2.2.2.2) σ.2.2.2.2.1))), (5, .int 0), (3, .int ((((0 + (f_has 0 σ)) + (f_has 1 σ)) + (f_has 2 σ)) + (f_has 3 σ))), (2, .int (nI σ.2.1)), (1, .int (nI σ.2.2.2.2.1)), (0, .ref h)]) hx hb dL_isSound_388 hl (by decide) rfl (fun ls hl => ?_)
        refine lv_iinc (v := 1) (lv' := [(5, .int 1), (4, .int (0 + (nI (crd σ.2.2.1 0 (nI σ.2.2.2.2.2) σ.2.2.2.2.1)))), (9, .int (nI kk)), (8, .int la), (7, .int dy), (6, .int (nI (crd σ.2.2.1 0 (nI σ.2.2.2.2.2) σ.2.2.2.2.1))), (3, .int ((((0 + (f_has 0 σ)) + (f_has 1 σ)) + (f_has 2 σ)) + (f_has 3 σ))), (2, .int (nI σ.2.1)), (1, .int (nI σ.2.2.2.2.1)), (0, .ref h)]) hx hb dL_isSound_390 hl (k := 5) rfl (by decide) (by decide) rfl (fun ls hl => ?_)
        refine lv_goto (tgt := 264) hx hb dL_isSound_393 (by decide) ?_
        refine lv_iload hx hb dL_isSound_264 (lv_at hl 0 rfl) ?_
        refine lv_iconst (v := 3) hx hb dL_isSound_266 (by decide) ?_
        refine lv_icmp_ge (tgt := 396) hx hb dL_isSound_267 (by decide) (fun c9 => absurd c9 (by decide)) (fun _ => ?_)
        refine lv_aload_n hx hb dL_isSound_270 rfl (lv_at hl 9 rfl) ?_
        refine lv_iload hx hb dL_isSound_271 (lv_at hl 0 rfl) ?_
        refine lv_iconst (v := (-1)) hx hb dL_isSound_273 (by decide) ?_
        refine y_lro (vx_runSW (As := [.ref h, .int 1, .int (-1)]) (rest := []) ⟨hx, hb, hml, hown, hts⟩ (c_rdy l hl9 G k h a c σ H.size 1 hJ.1) (vx_cwSW 3 hts gL_isSound_L_ready rfl rfl rfl (by decide +kernel) ⟨Nat.le_of_ble_eq_true rfl, Nat.le_of_ble_eq_true rfl⟩) (yL_pre hS hV (yKeep hP0 (yO_k hS)) hK) rfl rfl hl.1 rfl (lv_room (Nat.le_of_ble_eq_true rfl)) dL_isSound_274 ⟨show cells + 1 ≤ 3600 by omega, show slots + 6 ≤ 21600 by omega⟩) hS (fun r H1 locs1 hr9 hk9 hS1 => ?_)
        have hS := hS1
        clear hk9 hS1
        subst hr9
        refine y_top (rdy_v (by decide)) ?_
        refine lv_istore (lv' := [(6, .int (nI (crd σ.2.2.1 1 (nI σ.2.2.2.2.2) σ.2.2.2.2.1))), (5, .int 1), (4, .int (0 + (nI (crd σ.2.2.1 0 (nI σ.2.2.2.2.2) σ.2.2.2.2.1)))), (9, .int (nI kk)), (8, .int la), (7, .int dy), (3, .int ((((0 + (f_has 0 σ)) + (f_has 1 σ)) + (f_has 2 σ)) + (f_has 3 σ))), (2, .int (nI σ.2.1)), (1, .int (nI σ.2.2.2.2.1)), (0, .ref h)]) hx hb dL_isSound_277 hl (by decide) rfl (fun ls hl => ?_)
        refine lv_iconst (v := (-1)) hx hb dL_isSound_279 (by decide) ?_
        refine lv_istore (lv' := [(7, .int (-1)), (6, .int (nI (crd σ.2.2.1 1 (nI σ.2.2.2.2.2) σ.2.2.2.2.1))), (5, .int 1), (4, .int (0 + (nI (crd σ.2.2.1 0 (nI σ.2.2.2.2.2) σ.2.2.2.2.1)))), (9, .int (nI kk)), (8, .int la), (3, .int ((((0 + (f_has 0 σ)) + (f_has 1 σ)) + (f_has 2 σ)) + (f_has 3 σ))), (2, .int (nI σ.2.1)), (1, .int (nI σ.2.2.2.2.1)), (0, .ref h)]) hx hb dL_isSound_280 hl (by decide) rfl (fun ls hl => ?_)
        refine lv_iconst (v := (-1)) hx hb dL_isSound_282 (by decide) ?_
        refine lv_istore (lv' := [(8, .int (-1)), (7, .int (-1)), (6, .int (nI (crd σ.2.2.1 1 (nI σ.2.2.2.2.2) σ.2.2.2.2.1))), (5, .int 1), (4, .int (0 + (nI (crd σ.2.2.1 0 (nI σ.2.2.2.2.2) σ.2.2.2.2.1)))), (9, .int (nI kk)), (3, .int ((((0 + (f_has 0 σ)) + (f_has 1 σ)) + (f_has 2 σ)) + (f_has 3 σ))), (2, .int (nI σ.2.1)), (1, .int (nI σ.2.2.2.2.1)), (0, .ref h)]) hx hb dL_isSound_283 hl (by decide) rfl (fun ls hl => ?_)
        refine lv_iconst (v := 0) hx hb dL_isSound_285 (by decide) ?_
        refine lv_istore (lv' := [(9, .int 0), (8, .int (-1)), (7, .int (-1)), (6, .int (nI (crd σ.2.2.1 1 (nI σ.2.2.2.2.2) σ.2.2.2.2.1))), (5, .int 1), (4, .int (0 + (nI (crd σ.2.2.1 0 (nI σ.2.2.2.2.2) σ.2.2.2.2.1)))), (3, .int ((((0 + (f_has 0 σ)) + (f_has 1 σ)) + (f_has 2 σ)) + (f_has 3 σ))), (2, .int (nI σ.2.1)), (1, .int (nI σ.2.2.2.2.1)), (0, .ref h)]) hx hb dL_isSound_286 hl (by decide) rfl (fun ls hl => ?_)
        have hcr : crd σ.2.2.1 1 (nI σ.2.2.2.2.2) σ.2.2.2.2.1 ≤ 80 := J_crd hJ
        have hl : lv_has ls 11 [(9, .int (nI 0)), (8, .int (-1)), (7, .int (-1)), (6, .int (nI (crd σ.2.2.1 1 (nI σ.2.2.2.2.2) σ.2.2.2.2.1))), (5, .int 1), (4, .int (0 + (nI (crd σ.2.2.1 0 (nI σ.2.2.2.2.2) σ.2.2.2.2.1)))), (3, .int ((((0 + (f_has 0 σ)) + (f_has 1 σ)) + (f_has 2 σ)) + (f_has 3 σ))), (2, .int (nI σ.2.1)), (1, .int (nI σ.2.2.2.2.1)), (0, .ref h)] := lv_sub hl [0, 1, 2, 3, 4, 5, 6, 7, 8, 9] rfl
        refine y_loopC (σ := Nat × Int32 × Int32) (fun r xσ cells slots H locs ls => xσ.1 + r = crd σ.2.2.1 1 (nI σ.2.2.2.2.2) σ.2.2.2.2.1 ∧ rdI σ 1 xσ.1 xσ.2.1 xσ.2.2 ∧ yO s H locs ∧ cells + (11 * r + 1031) ≤ 3600 ∧ slots + (66 * r + 6186) ≤ 21600 ∧ lv_has ls 11 [(9, .int (nI xσ.1)), (8, .int xσ.2.2), (7, .int xσ.2.1), (6, .int (nI (crd σ.2.2.1 1 (nI σ.2.2.2.2.2) σ.2.2.2.2.1))), (5, .int 1), (4, .int (0 + (nI (crd σ.2.2.1 0 (nI σ.2.2.2.2.2) σ.2.2.2.2.1)))), (3, .int ((((0 + (f_has 0 σ)) + (f_has 1 σ)) + (f_has 2 σ)) + (f_has 3 σ))), (2, .int (nI σ.2.1)), (1, .int (nI σ.2.2.2.2.1)), (0, .ref h)]) (fun r xσ cells slots H locs ls hI ih288 => ?_) (crd σ.2.2.1 1 (nI σ.2.2.2.2.2) σ.2.2.2.2.1) (0, -1, -1) _ _ _ _ _ ⟨(by omega), (Or.inl ⟨rfl, rfl, rfl⟩), hS, (by (try dsimp only); omega), (by (try dsimp only); omega), hl⟩
        obtain ⟨kk, dy, la⟩ := xσ
        obtain ⟨hk, hrd, hS, hb1, hb2, hl⟩ := hI
        dsimp only at hk hrd hl
        refine lv_iload hx hb dL_isSound_288 (lv_at hl 0 rfl) ?_
        refine lv_iload hx hb dL_isSound_290 (lv_at hl 3 rfl) ?_
        refine lv_icmp_ge (tgt := 383) hx hb dL_isSound_292 (by decide) (fun c292 => ?_) (fun c292 => ?_)
        · skip
          refine lv_iload hx hb dL_isSound_383 (lv_at hl 5 rfl) ?_
          refine lv_iload hx hb dL_isSound_385 (lv_at hl 3 rfl) ?_
          refine lv_iadd hx hb dL_isSound_387 ?_
          refine lv_istore (lv' := [(4, .int ((0 + (nI (crd σ.2.2.1 0 (nI σ.2.2.2.2.2) σ.2.2.2.2.1))) + (nI (crd σ.2.2.1 1 (nI σ.2.2.2.2.2) σ.2.2.2.2.1)))), (9, .int (nI kk)), (8, .int la), (7, .int dy), (6, .int (nI (crd σ.2.2.1 1 (nI σ.2.2.2.2.2) σ.2.2.2.2.1))), (5, .int 1), (3, .int ((((0 + (f_has 0 σ)) + (f_has 1 σ)) + (f_has 2 σ)) + (f_has 3 σ))), (2, .int (nI σ.2.1)), (1, .int (nI σ.2.2.2.2.1)), (0, .ref h)]) hx hb dL_isSound_388 hl (by decide) rfl (fun ls hl => ?_)
          refine lv_iinc (v := 2) (lv' := [(5, .int 2), (4, .int ((0 + (nI (crd σ.2.2.1 0 (nI σ.2.2.2.2.2) σ.2.2.2.2.1))) + (nI (crd σ.2.2.1 1 (nI σ.2.2.2.2.2) σ.2.2.2.2.1)))), (9, .int (nI kk)), (8, .int la), (7, .int dy), (6, .int (nI (crd σ.2.2.1 1 (nI σ.2.2.2.2.2) σ.2.2.2.2.1))), (3, .int ((((0 + (f_has 0 σ)) + (f_has 1 σ)) + (f_has 2 σ)) + (f_has 3 σ))), (2, .int (nI σ.2.1)), (1, .int (nI σ.2.2.2.2.1)), (0, .ref h)]) hx hb dL_isSound_390 hl (k := 5) rfl (by decide) (by decide) rfl (fun ls hl => ?_)
          refine lv_goto (tgt := 264) hx hb dL_isSound_393 (by decide) ?_
          refine lv_iload hx hb dL_isSound_264 (lv_at hl 0 rfl) ?_
          refine lv_iconst (v := 3) hx hb dL_isSound_266 (by decide) ?_
          refine lv_icmp_ge (tgt := 396) hx hb dL_isSound_267 (by decide) (fun c9 => absurd c9 (by decide)) (fun _ => ?_)
          refine lv_aload_n hx hb dL_isSound_270 rfl (lv_at hl 9 rfl) ?_
          refine lv_iload hx hb dL_isSound_271 (lv_at hl 0 rfl) ?_
          refine lv_iconst (v := (-1)) hx hb dL_isSound_273 (by decide) ?_
          refine y_lro (vx_runSW (As := [.ref h, .int 2, .int (-1)]) (rest := []) ⟨hx, hb, hml, hown, hts⟩ (c_rdy l hl9 G k h a c σ H.size 2 hJ.1) (vx_cwSW 3 hts gL_isSound_L_ready rfl rfl rfl (by decide +kernel) ⟨Nat.le_of_ble_eq_true rfl, Nat.le_of_ble_eq_true rfl⟩) (yL_pre hS hV (yKeep hP0 (yO_k hS)) hK) rfl rfl hl.1 rfl (lv_room (Nat.le_of_ble_eq_true rfl)) dL_isSound_274 ⟨show cells + 1 ≤ 3600 by omega, show slots + 6 ≤ 21600 by omega⟩) hS (fun r H1 locs1 hr9 hk9 hS1 => ?_)
          have hS := hS1
          clear hk9 hS1
          subst hr9
          refine y_top (rdy_v (by decide)) ?_
          refine lv_istore (lv' := [(6, .int (nI (crd σ.2.2.1 2 (nI σ.2.2.2.2.2) σ.2.2.2.2.1))), (5, .int 2), (4, .int ((0 + (nI (crd σ.2.2.1 0 (nI σ.2.2.2.2.2) σ.2.2.2.2.1))) + (nI (crd σ.2.2.1 1 (nI σ.2.2.2.2.2) σ.2.2.2.2.1)))), (9, .int (nI kk)), (8, .int la), (7, .int dy), (3, .int ((((0 + (f_has 0 σ)) + (f_has 1 σ)) + (f_has 2 σ)) + (f_has 3 σ))), (2, .int (nI σ.2.1)), (1, .int (nI σ.2.2.2.2.1)), (0, .ref h)]) hx hb dL_isSound_277 hl (by decide) rfl (fun ls hl => ?_)
          refine lv_iconst (v := (-1)) hx hb dL_isSound_279 (by decide) ?_
          refine lv_istore (lv' := [(7, .int (-1)), (6, .int (nI (crd σ.2.2.1 2 (nI σ.2.2.2.2.2) σ.2.2.2.2.1))), (5, .int 2), (4, .int ((0 + (nI (crd σ.2.2.1 0 (nI σ.2.2.2.2.2) σ.2.2.2.2.1))) + (nI (crd σ.2.2.1 1 (nI σ.2.2.2.2.2) σ.2.2.2.2.1)))), (9, .int (nI kk)), (8, .int la), (3, .int ((((0 + (f_has 0 σ)) + (f_has 1 σ)) + (f_has 2 σ)) + (f_has 3 σ))), (2, .int (nI σ.2.1)), (1, .int (nI σ.2.2.2.2.1)), (0, .ref h)]) hx hb dL_isSound_280 hl (by decide) rfl (fun ls hl => ?_)
          refine lv_iconst (v := (-1)) hx hb dL_isSound_282 (by decide) ?_
          refine lv_istore (lv' := [(8, .int (-1)), (7, .int (-1)), (6, .int (nI (crd σ.2.2.1 2 (nI σ.2.2.2.2.2) σ.2.2.2.2.1))), (5, .int 2), (4, .int ((0 + (nI (crd σ.2.2.1 0 (nI σ.2.2.2.2.2) σ.2.2.2.2.1))) + (nI (crd σ.2.2.1 1 (nI σ.2.2.2.2.2) σ.2.2.2.2.1)))), (9, .int (nI kk)), (3, .int ((((0 + (f_has 0 σ)) + (f_has 1 σ)) + (f_has 2 σ)) + (f_has 3 σ))), (2, .int (nI σ.2.1)), (1, .int (nI σ.2.2.2.2.1)), (0, .ref h)]) hx hb dL_isSound_283 hl (by decide) rfl (fun ls hl => ?_)
          refine lv_iconst (v := 0) hx hb dL_isSound_285 (by decide) ?_
          refine lv_istore (lv' := [(9, .int 0), (8, .int (-1)), (7, .int (-1)), (6, .int (nI (crd σ.2.2.1 2 (nI σ.2.2.2.2.2) σ.2.2.2.2.1))), (5, .int 2), (4, .int ((0 + (nI (crd σ.2.2.1 0 (nI σ.2.2.2.2.2) σ.2.2.2.2.1))) + (nI (crd σ.2.2.1 1 (nI σ.2.2.2.2.2) σ.2.2.2.2.1)))), (3, .int ((((0 + (f_has 0 σ)) + (f_has 1 σ)) + (f_has 2 σ)) + (f_has 3 σ))), (2, .int (nI σ.2.1)), (1, .int (nI σ.2.2.2.2.1)), (0, .ref h)]) hx hb dL_isSound_286 hl (by decide) rfl (fun ls hl => ?_)
          have hcr : crd σ.2.2.1 2 (nI σ.2.2.2.2.2) σ.2.2.2.2.1 ≤ 80 := J_crd hJ
          have hl : lv_has ls 11 [(9, .int (nI 0)), (8, .int (-1)), (7, .int (-1)), (6, .int (nI (crd σ.2.2.1 2 (nI σ.2.2.2.2.2) σ.2.2.2.2.1))), (5, .int 2), (4, .int ((0 + (nI (crd σ.2.2.1 0 (nI σ.2.2.2.2.2) σ.2.2.2.2.1))) + (nI (crd σ.2.2.1 1 (nI σ.2.2.2.2.2) σ.2.2.2.2.1)))), (3, .int ((((0 + (f_has 0 σ)) + (f_has 1 σ)) + (f_has 2 σ)) + (f_has 3 σ))), (2, .int (nI σ.2.1)), (1, .int (nI σ.2.2.2.2.1)), (0, .ref h)] := lv_sub hl [0, 1, 2, 3, 4, 5, 6, 7, 8, 9] rfl
          refine y_loopC (σ := Nat × Int32 × Int32) (fun r xσ cells slots H locs ls => xσ.1 + r = crd σ.2.2.1 2 (nI σ.2.2.2.2.2) σ.2.2.2.2.1 ∧ rdI σ 2 xσ.1 xσ.2.1 xσ.2.2 ∧ yO s H locs ∧ cells + (11 * r + 150) ≤ 3600 ∧ slots + (66 * r + 900) ≤ 21600 ∧ lv_has ls 11 [(9, .int (nI xσ.1)), (8, .int xσ.2.2), (7, .int xσ.2.1), (6, .int (nI (crd σ.2.2.1 2 (nI σ.2.2.2.2.2) σ.2.2.2.2.1))), (5, .int 2), (4, .int ((0 + (nI (crd σ.2.2.1 0 (nI σ.2.2.2.2.2) σ.2.2.2.2.1))) + (nI (crd σ.2.2.1 1 (nI σ.2.2.2.2.2) σ.2.2.2.2.1)))), (3, .int ((((0 + (f_has 0 σ)) + (f_has 1 σ)) + (f_has 2 σ)) + (f_has 3 σ))), (2, .int (nI σ.2.1)), (1, .int (nI σ.2.2.2.2.1)), (0, .ref h)]) (fun r xσ cells slots H locs ls hI ih288 => ?_) (crd σ.2.2.1 2 (nI σ.2.2.2.2.2) σ.2.2.2.2.1) (0, -1, -1) _ _ _ _ _ ⟨(by omega), (Or.inl ⟨rfl, rfl, rfl⟩), hS, (by (try dsimp only); omega), (by (try dsimp only); omega), hl⟩
          obtain ⟨kk, dy, la⟩ := xσ
          obtain ⟨hk, hrd, hS, hb1, hb2, hl⟩ := hI
          dsimp only at hk hrd hl
          refine lv_iload hx hb dL_isSound_288 (lv_at hl 0 rfl) ?_
          refine lv_iload hx hb dL_isSound_290 (lv_at hl 3 rfl) ?_
          refine lv_icmp_ge (tgt := 383) hx hb dL_isSound_292 (by decide) (fun c292 => ?_) (fun c292 => ?_)
          · skip
            refine lv_iload hx hb dL_isSound_383 (lv_at hl 5 rfl) ?_
            refine lv_iload hx hb dL_isSound_385 (lv_at hl 3 rfl) ?_
            refine lv_iadd hx hb dL_isSound_387 ?_
            refine lv_istore (lv' := [(4, .int (((0 + (nI (crd σ.2.2.1 0 (nI σ.2.2.2.2.2) σ.2.2.2.2.1))) + (nI (crd σ.2.2.1 1 (nI σ.2.2.2.2.2) σ.2.2.2.2.1))) + (nI (crd σ.2.2.1 2 (nI σ.2.2.2.2.2) σ.2.2.2.2.1)))), (9, .int (nI kk)), (8, .int la), (7, .int dy), (6, .int (nI (crd σ.2.2.1 2 (nI σ.2.2.2.2.2) σ.2.2.2.2.1))), (5, .int 2), (3, .int ((((0 + (f_has 0 σ)) + (f_has 1 σ)) + (f_has 2 σ)) + (f_has 3 σ))), (2, .int (nI σ.2.1)), (1, .int (nI σ.2.2.2.2.1)), (0, .ref h)]) hx hb dL_isSound_388 hl (by decide) rfl (fun ls hl => ?_)
            refine lv_iinc (v := 3) (lv' := [(5, .int 3), (4, .int (((0 + (nI (crd σ.2.2.1 0 (nI σ.2.2.2.2.2) σ.2.2.2.2.1))) + (nI (crd σ.2.2.1 1 (nI σ.2.2.2.2.2) σ.2.2.2.2.1))) + (nI (crd σ.2.2.1 2 (nI σ.2.2.2.2.2) σ.2.2.2.2.1)))), (9, .int (nI kk)), (8, .int la), (7, .int dy), (6, .int (nI (crd σ.2.2.1 2 (nI σ.2.2.2.2.2) σ.2.2.2.2.1))), (3, .int ((((0 + (f_has 0 σ)) + (f_has 1 σ)) + (f_has 2 σ)) + (f_has 3 σ))), (2, .int (nI σ.2.1)), (1, .int (nI σ.2.2.2.2.1)), (0, .ref h)]) hx hb dL_isSound_390 hl (k := 5) rfl (by decide) (by decide) rfl (fun ls hl => ?_)
            refine lv_goto (tgt := 264) hx hb dL_isSound_393 (by decide) ?_
            refine lv_iload hx hb dL_isSound_264 (lv_at hl 0 rfl) ?_
            refine lv_iconst (v := 3) hx hb dL_isSound_266 (by decide) ?_
            refine lv_icmp_ge (tgt := 396) hx hb dL_isSound_267 (by decide) (fun _ => ?_) (fun c9 => absurd c9 (by decide))
            refine lv_iconst (v := 0) hx hb dL_isSound_396 (by decide) ?_
            refine lv_istore (lv' := [(5, .int 0), (4, .int (((0 + (nI (crd σ.2.2.1 0 (nI σ.2.2.2.2.2) σ.2.2.2.2.1))) + (nI (crd σ.2.2.1 1 (nI σ.2.2.2.2.2) σ.2.2.2.2.1))) + (nI (crd σ.2.2.1 2 (nI σ.2.2.2.2.2) σ.2.2.2.2.1)))), (9, .int (nI kk)), (8, .int la), (7, .int dy), (6, .int (nI (crd σ.2.2.1 2 (nI σ.2.2.2.2.2) σ.2.2.2.2.1))), (3, .int ((((0 + (f_has 0 σ)) + (f_has 1 σ)) + (f_has 2 σ)) + (f_has 3 σ))), (2, .int (nI σ.2.1)), (1, .int (nI σ.2.2.2.2.1)), (0, .ref h)]) hx hb dL_isSound_397 hl (by decide) rfl (fun ls hl => ?_)
            have hl : lv_has ls 11 [(5, .int (nI 0)), (4, .int (((0 + (nI (crd σ.2.2.1 0 (nI σ.2.2.2.2.2) σ.2.2.2.2.1))) + (nI (crd σ.2.2.1 1 (nI σ.2.2.2.2.2) σ.2.2.2.2.1))) + (nI (crd σ.2.2.1 2 (nI σ.2.2.2.2.2) σ.2.2.2.2.1)))), (3, .int ((((0 + (f_has 0 σ)) + (f_has 1 σ)) + (f_has 2 σ)) + (f_has 3 σ))), (2, .int (nI σ.2.1)), (1, .int (nI σ.2.2.2.2.1)), (0, .ref h)] := lv_sub hl [0, 1, 6, 7, 8, 9] rfl
            refine y_loopC (σ := Nat) (fun r xσ cells slots H locs ls => xσ + r = σ.2.1 ∧ yO s H locs ∧ cells + (15 * r + 10) ≤ 3600 ∧ slots + (90 * r + 60) ≤ 21600 ∧ lv_has ls 11 [(5, .int (nI xσ)), (4, .int (((0 + (nI (crd σ.2.2.1 0 (nI σ.2.2.2.2.2) σ.2.2.2.2.1))) + (nI (crd σ.2.2.1 1 (nI σ.2.2.2.2.2) σ.2.2.2.2.1))) + (nI (crd σ.2.2.1 2 (nI σ.2.2.2.2.2) σ.2.2.2.2.1)))), (3, .int ((((0 + (f_has 0 σ)) + (f_has 1 σ)) + (f_has 2 σ)) + (f_has 3 σ))), (2, .int (nI σ.2.1)), (1, .int (nI σ.2.2.2.2.1)), (0, .ref h)]) (fun r xσ cells slots H locs ls hI ih399 => ?_) σ.2.1 0 _ _ _ _ _ ⟨(by omega), hS, (by (try dsimp only); omega), (by (try dsimp only); omega), hl⟩
            obtain ⟨i, rfl⟩ : ∃ z, z = xσ := ⟨xσ, rfl⟩
            obtain ⟨hi, hS, hb1, hb2, hl⟩ := hI
            refine lv_iload hx hb dL_isSound_399 (lv_at hl 0 rfl) ?_
            refine lv_iload_n hx hb dL_isSound_401 rfl (lv_at hl 3 rfl) ?_
            refine lv_icmp_ge (tgt := 571) hx hb dL_isSound_402 (by decide) (fun c402 => ?_) (fun c402 => ?_)
            · skip
              replace c402 : σ.2.1 ≤ i := (nI_leI (a := σ.2.1) (b := i) (by omega) (by omega)).mp c402
              refine lv_iload_n hx hb dL_isSound_571 rfl (lv_at hl 2 rfl) ?_
              refine lv_aload_n hx hb dL_isSound_572 rfl (lv_at hl 5 rfl) ?_
              refine lv_bipush (v := 115) hx hb dL_isSound_573 (by decide) ?_
              refine lv_bipush (v := 116) hx hb dL_isSound_575 (by decide) ?_
              refine y_lro (vx_runSW (As := [.ref h, .int 115, .int 116]) (rest := [.int ((((0 + (f_has 0 σ)) + (f_has 1 σ)) + (f_has 2 σ)) + (f_has 3 σ))]) ⟨hx, hb, hml, hown, hts⟩ (c_cnt l hl9 G k h a c σ H.size 116 hJ.1 (by decide)) (vx_cwSW 3 hts gL_isSound_L_told rfl rfl rfl (by decide +kernel) ⟨Nat.le_of_ble_eq_true rfl, Nat.le_of_ble_eq_true rfl⟩) (yL_pre hS hV (yKeep hP0 (yO_k hS)) hK) rfl rfl hl.1 rfl (lv_room (Nat.le_of_ble_eq_true rfl)) dL_isSound_577 ⟨show cells + 1 ≤ 3600 by omega, show slots + 6 ≤ 21600 by omega⟩) hS (fun r H1 locs1 hr9 hk9 hS1 => ?_)
              have hS := hS1
              clear hk9 hS1
              subst hr9
              refine lv_icmp_ne (tgt := 636) hx hb dL_isSound_580 (by decide) (fun c9 => absurd (J_taken hJ) c9) (fun _ => ?_)
              refine lv_iload hx hb dL_isSound_583 (lv_at hl 1 rfl) ?_
              refine lv_aload_n hx hb dL_isSound_585 rfl (lv_at hl 5 rfl) ?_
              refine lv_bipush (v := 115) hx hb dL_isSound_586 (by decide) ?_
              refine lv_bipush (v := 119) hx hb dL_isSound_588 (by decide) ?_
              refine y_lro (vx_runSW (As := [.ref h, .int 115, .int 119]) (rest := [.int (((0 + (nI (crd σ.2.2.1 0 (nI σ.2.2.2.2.2) σ.2.2.2.2.1))) + (nI (crd σ.2.2.1 1 (nI σ.2.2.2.2.2) σ.2.2.2.2.1))) + (nI (crd σ.2.2.1 2 (nI σ.2.2.2.2.2) σ.2.2.2.2.1)))]) ⟨hx, hb, hml, hown, hts⟩ (c_cnt l hl9 G k h a c σ H1.size 119 hJ.1 (by decide)) (vx_cwSW 3 hts gL_isSound_L_told rfl rfl rfl (by decide +kernel) ⟨Nat.le_of_ble_eq_true rfl, Nat.le_of_ble_eq_true rfl⟩) (yL_pre hS hV (yKeep hP0 (yO_k hS)) hK) rfl rfl hl.1 rfl (lv_room (Nat.le_of_ble_eq_true rfl)) dL_isSound_590 ⟨show cells + 1 + 1 ≤ 3600 by omega, show slots + 6 + 6 ≤ 21600 by omega⟩) hS (fun r H1 locs1 hr9 hk9 hS1 => ?_)
              have hS := hS1
              clear hk9 hS1
              subst hr9
              refine lv_icmp_gt (tgt := 636) hx hb dL_isSound_593 (by decide) (fun c9 => absurd c9 (J_ready2 hJ)) (fun _ => ?_)
              refine y_join (pc1 := 623) (ls1 := ls) (st1 := []) (fun (H : Heap) (locs : List Loc) (cells slots : Nat) => yO s H locs ∧ cells + 5 ≤ 3600 ∧ slots + 30 ≤ 21600) (fun H locs cells slots hP9 => ?_) (fun K623 => ?_)
              · obtain ⟨hS, hb1, hb2⟩ := hP9
                refine lv_aload_n hx hb dL_isSound_623 rfl (lv_at hl 5 rfl) ?_
                refine y_lroF (vx_runSW (As := [.ref h]) (rest := []) ⟨hx, hb, hml, hown, hts⟩ (c_share l hl9 G k h a c σ H.size  hJ.1) (vx_cwSW 1 hts gL_isSound_L_share rfl rfl rfl (by decide +kernel) ⟨Nat.le_of_ble_eq_true rfl, Nat.le_of_ble_eq_true rfl⟩) (yL_pre hS hV (yKeep hP0 (yO_k hS)) hK) rfl rfl hl.1 rfl (lv_room (Nat.le_of_ble_eq_true rfl)) dL_isSound_624 ⟨show cells + 1 ≤ 3600 by omega, show slots + 6 ≤ 21600 by omega⟩) hS (fun r H1 locs1 hr9 hk9 hS1 => ?_)
                have hS := hS1
                clear hk9 hS1
                subst hr9
                refine lv_fconst1 hx hb dL_isSound_627 ?_
                refine lv_fcmp hx hb dL_isSound_628 ?_
                refine lv_if_gt (tgt := 636) hx hb dL_isSound_629 (by decide) (fun c9 => absurd c9 (share_l hJ)) (fun _ => ?_)
                refine lv_iconst (v := 1) hx hb dL_isSound_632 (by decide) ?_
                refine lv_goto (tgt := 637) hx hb dL_isSound_633 (by decide) ?_
                refine W.widen (k := 3600) (n := 21600) (show cells + 1 ≤ 3600 by omega) (show slots + 6 ≤ 21600 by omega) ?_
                exact W.zret (v := 1) hx hb hr (by decide) (fun τ hτ hW => ⟨⟨_, (), rfl, rfl, trivial⟩, hS.F hτ⟩) hS.2.2 dL_isSound_637
              refine lv_aload_n hx hb dL_isSound_596 rfl (lv_at hl 5 rfl) ?_
              refine y_lroF (vx_runSW (As := [.ref h]) (rest := []) ⟨hx, hb, hml, hown, hts⟩ (c_share l hl9 G k h a c σ H1.size  hJ.1) (vx_cwSW 1 hts gL_isSound_L_share rfl rfl rfl (by decide +kernel) ⟨Nat.le_of_ble_eq_true rfl, Nat.le_of_ble_eq_true rfl⟩) (yL_pre hS hV (yKeep hP0 (yO_k hS)) hK) rfl rfl hl.1 rfl (lv_room (Nat.le_of_ble_eq_true rfl)) dL_isSound_597 ⟨show cells + 1 + 1 + 1 ≤ 3600 by omega, show slots + 6 + 6 + 6 ≤ 21600 by omega⟩) hS (fun r H1 locs1 hr9 hk9 hS1 => ?_)
              have hS := hS1
              clear hk9 hS1
              subst hr9
              refine lv_ldcf (v := 3212836864) hx hb hown (hts (.constantFloat RL 98 3212836864) (ws_flt)) dL_isSound_600 ?_
              refine lv_fcmp hx hb dL_isSound_602 ?_
              refine lv_if_ne (tgt := 610) hx hb dL_isSound_603 (by decide) (fun c603 => ?_) (fun c603 => ?_)
              · skip
                refine lv_iconst (v := 0) hx hb dL_isSound_610 (by decide) ?_
                refine lv_iload_n hx hb dL_isSound_611 rfl (lv_at hl 4 rfl) ?_
                refine lv_if_ne (tgt := 619) hx hb dL_isSound_612 (by decide) (fun _ => ?_) (fun c9 => absurd c9 (fun h9 => c603 ((share_i hJ).mpr h9)))
                refine lv_iconst (v := 0) hx hb dL_isSound_619 (by decide) ?_
                refine lv_icmp_ne (tgt := 636) hx hb dL_isSound_620 (by decide) (fun c9 => absurd c9 (by decide)) (fun _ => ?_)
                exact K623 _ _ _ _ ⟨hS, by omega, by omega⟩
              · skip
                refine lv_iconst (v := 1) hx hb dL_isSound_606 (by decide) ?_
                refine lv_goto (tgt := 611) hx hb dL_isSound_607 (by decide) ?_
                refine lv_iload_n hx hb dL_isSound_611 rfl (lv_at hl 4 rfl) ?_
                refine lv_if_ne (tgt := 619) hx hb dL_isSound_612 (by decide) (fun c9 => absurd ((share_i hJ).mp c603) c9) (fun _ => ?_)
                refine lv_iconst (v := 1) hx hb dL_isSound_615 (by decide) ?_
                refine lv_goto (tgt := 620) hx hb dL_isSound_616 (by decide) ?_
                refine lv_icmp_ne (tgt := 636) hx hb dL_isSound_620 (by decide) (fun c9 => absurd c9 (by decide)) (fun _ => ?_)
                exact K623 _ _ _ _ ⟨hS, by omega, by omega⟩
            · skip
              have c402 : i < σ.2.1 := Nat.not_le.mp (fun h9 => c402 ((nI_leI (a := σ.2.1) (b := i) (by omega) (by omega)).mpr h9))
              obtain ⟨r1, rfl⟩ : ∃ z, r = z + 1 := ⟨r - 1, by omega⟩
              obtain ⟨Lt, hL1, hL2, hL3⟩ := hJ.2.2.2 i c402
              refine lv_aload_n hx hb dL_isSound_405 rfl (lv_at hl 5 rfl) ?_
              refine lv_iload hx hb dL_isSound_406 (lv_at hl 0 rfl) ?_
              refine lv_iconst (v := 1) hx hb dL_isSound_408 (by decide) ?_
              refine y_lro (vx_runSW (As := [.ref h, .int (nI i), .int 1]) (rest := []) ⟨hx, hb, hml, hown, hts⟩ (c_of_1 l hl9 G k h a c σ H.size (nI i) hJ.1) (vx_cwSW 3 hts gL_isSound_L_of rfl rfl rfl (by decide +kernel) ⟨Nat.le_of_ble_eq_true rfl, Nat.le_of_ble_eq_true rfl⟩) (yL_pre hS hV (yKeep hP0 (yO_k hS)) hK) rfl rfl hl.1 rfl (lv_room (Nat.le_of_ble_eq_true rfl)) dL_isSound_409 ⟨show cells + 1 ≤ 3600 by omega, show slots + 6 ≤ 21600 by omega⟩) hS (fun r H1 locs1 hr9 hk9 hS1 => ?_)
              have hS := hS1
              clear hk9 hS1
              subst hr9
              refine y_top ((of_1 hJ c402).trans hL2) ?_
              refine lv_istore (lv' := [(6, .int (nI Lt)), (5, .int (nI i)), (4, .int (((0 + (nI (crd σ.2.2.1 0 (nI σ.2.2.2.2.2) σ.2.2.2.2.1))) + (nI (crd σ.2.2.1 1 (nI σ.2.2.2.2.2) σ.2.2.2.2.1))) + (nI (crd σ.2.2.1 2 (nI σ.2.2.2.2.2) σ.2.2.2.2.1)))), (3, .int ((((0 + (f_has 0 σ)) + (f_has 1 σ)) + (f_has 2 σ)) + (f_has 3 σ))), (2, .int (nI σ.2.1)), (1, .int (nI σ.2.2.2.2.1)), (0, .ref h)]) hx hb dL_isSound_412 hl (by decide) rfl (fun ls hl => ?_)
              refine lv_aload_n hx hb dL_isSound_414 rfl (lv_at hl 6 rfl) ?_
              refine lv_iload hx hb dL_isSound_415 (lv_at hl 1 rfl) ?_
              refine lv_iconst (v := 3) hx hb dL_isSound_417 (by decide) ?_
              refine y_lro (vx_runSW (As := [.ref h, .int (nI i), .int 3]) (rest := []) ⟨hx, hb, hml, hown, hts⟩ (c_of_3 l hl9 G k h a c σ H1.size (nI i) hJ.1) (vx_cwSW 3 hts gL_isSound_L_of rfl rfl rfl (by decide +kernel) ⟨Nat.le_of_ble_eq_true rfl, Nat.le_of_ble_eq_true rfl⟩) (yL_pre hS hV (yKeep hP0 (yO_k hS)) hK) rfl rfl hl.1 rfl (lv_room (Nat.le_of_ble_eq_true rfl)) dL_isSound_418 ⟨show cells + 1 + 2 ≤ 3600 by omega, show slots + 6 + 12 ≤ 21600 by omega⟩) hS (fun r H1 locs1 hr9 hk9 hS1 => ?_)
              have hS := hS1
              clear hk9 hS1
              subst hr9
              refine lv_istore (lv' := [(7, .int (f_of 3 (nI i) σ)), (6, .int (nI Lt)), (5, .int (nI i)), (4, .int (((0 + (nI (crd σ.2.2.1 0 (nI σ.2.2.2.2.2) σ.2.2.2.2.1))) + (nI (crd σ.2.2.1 1 (nI σ.2.2.2.2.2) σ.2.2.2.2.1))) + (nI (crd σ.2.2.1 2 (nI σ.2.2.2.2.2) σ.2.2.2.2.1)))), (3, .int ((((0 + (f_has 0 σ)) + (f_has 1 σ)) + (f_has 2 σ)) + (f_has 3 σ))), (2, .int (nI σ.2.1)), (1, .int (nI σ.2.2.2.2.1)), (0, .ref h)]) hx hb dL_isSound_421 hl (by decide) rfl (fun ls hl => ?_)
              refine y_join (pc1 := 500) (ls1 := ls) (st1 := []) (fun (H : Heap) (locs : List Loc) (cells slots : Nat) => yO s H locs ∧ cells + (9 + (15 * r1 + 10)) ≤ 3600 ∧ slots + (54 + (90 * r1 + 60)) ≤ 21600) (fun H locs cells slots hP9 => ?_) (fun K500 => ?_)
              · obtain ⟨hS, hb1, hb2⟩ := hP9
                refine lv_iconst (v := 0) hx hb dL_isSound_500 (by decide) ?_
                refine lv_istore (lv' := [(8, .int 0), (7, .int (f_of 3 (nI i) σ)), (6, .int (nI Lt)), (5, .int (nI i)), (4, .int (((0 + (nI (crd σ.2.2.1 0 (nI σ.2.2.2.2.2) σ.2.2.2.2.1))) + (nI (crd σ.2.2.1 1 (nI σ.2.2.2.2.2) σ.2.2.2.2.1))) + (nI (crd σ.2.2.1 2 (nI σ.2.2.2.2.2) σ.2.2.2.2.1)))), (3, .int ((((0 + (f_has 0 σ)) + (f_has 1 σ)) + (f_has 2 σ)) + (f_has 3 σ))), (2, .int (nI σ.2.1)), (1, .int (nI σ.2.2.2.2.1)), (0, .ref h)]) hx hb dL_isSound_501 hl (by decide) rfl (fun ls hl => ?_)
                have hl : lv_has ls 11 [(8, .int (nI 0)), (6, .int (nI Lt)), (5, .int (nI i)), (4, .int (((0 + (nI (crd σ.2.2.1 0 (nI σ.2.2.2.2.2) σ.2.2.2.2.1))) + (nI (crd σ.2.2.1 1 (nI σ.2.2.2.2.2) σ.2.2.2.2.1))) + (nI (crd σ.2.2.1 2 (nI σ.2.2.2.2.2) σ.2.2.2.2.1)))), (3, .int ((((0 + (f_has 0 σ)) + (f_has 1 σ)) + (f_has 2 σ)) + (f_has 3 σ))), (2, .int (nI σ.2.1)), (1, .int (nI σ.2.2.2.2.1)), (0, .ref h)] := lv_sub hl [0, 2, 3, 4, 5, 6, 7, 8] rfl
                refine y_loopC (σ := Nat) (fun r xσ cells slots H locs ls => xσ + r = Lt ∧ yO s H locs ∧ cells + (3 * r + (15 * r1 + 10)) ≤ 3600 ∧ slots + (18 * r + (90 * r1 + 60)) ≤ 21600 ∧ lv_has ls 11 [(8, .int (nI xσ)), (6, .int (nI Lt)), (5, .int (nI i)), (4, .int (((0 + (nI (crd σ.2.2.1 0 (nI σ.2.2.2.2.2) σ.2.2.2.2.1))) + (nI (crd σ.2.2.1 1 (nI σ.2.2.2.2.2) σ.2.2.2.2.1))) + (nI (crd σ.2.2.1 2 (nI σ.2.2.2.2.2) σ.2.2.2.2.1)))), (3, .int ((((0 + (f_has 0 σ)) + (f_has 1 σ)) + (f_has 2 σ)) + (f_has 3 σ))), (2, .int (nI σ.2.1)), (1, .int (nI σ.2.2.2.2.1)), (0, .ref h)]) (fun r xσ cells slots H locs ls hI ih503 => ?_) Lt 0 _ _ _ _ _ ⟨(by omega), hS, (by (try dsimp only); omega), (by (try dsimp only); omega), hl⟩
                obtain ⟨t9, rfl⟩ : ∃ z, z = xσ := ⟨xσ, rfl⟩
                obtain ⟨ht, hS, hb1, hb2, hl⟩ := hI
                refine lv_iload hx hb dL_isSound_503 (lv_at hl 0 rfl) ?_
                refine lv_iload hx hb dL_isSound_505 (lv_at hl 1 rfl) ?_
                refine lv_icmp_ge (tgt := 565) hx hb dL_isSound_507 (by decide) (fun c507 => ?_) (fun c507 => ?_)
                · skip
                  replace c507 : Lt ≤ t9 := (nI_leI (a := Lt) (b := t9) (by omega) (by omega)).mp c507
                  refine lv_iinc (v := (nI (i + 1))) (lv' := [(5, .int (nI (i + 1))), (8, .int (nI t9)), (6, .int (nI Lt)), (4, .int (((0 + (nI (crd σ.2.2.1 0 (nI σ.2.2.2.2.2) σ.2.2.2.2.1))) + (nI (crd σ.2.2.1 1 (nI σ.2.2.2.2.2) σ.2.2.2.2.1))) + (nI (crd σ.2.2.1 2 (nI σ.2.2.2.2.2) σ.2.2.2.2.1)))), (3, .int ((((0 + (f_has 0 σ)) + (f_has 1 σ)) + (f_has 2 σ)) + (f_has 3 σ))), (2, .int (nI σ.2.1)), (1, .int (nI σ.2.2.2.2.1)), (0, .ref h)]) hx hb dL_isSound_565 hl (k := 2) rfl (nI_1 i) (by decide) rfl (fun ls hl => ?_)
                  refine lv_goto (tgt := 399) hx hb dL_isSound_568 (by decide) ?_
                  exact ih399 r1 (i + 1) _ _ _ _ _ (by omega) ⟨(by omega), hS, (by (try dsimp only); omega), (by (try dsimp only); omega), lv_sub hl [0, 3, 4, 5, 6, 7] rfl⟩
                · skip
                  have c507 : t9 < Lt := Nat.not_le.mp (fun h9 => c507 ((nI_leI (a := Lt) (b := t9) (by omega) (by omega)).mpr h9))
                  obtain ⟨r2, rfl⟩ : ∃ z, r = z + 1 := ⟨r - 1, by omega⟩
                  obtain ⟨q9, hq1, hq2, hq3, hq4⟩ := hL3 t9 c507
                  have hk9 : f_wk (1000 + 10 * nI i + nI t9) σ = nI q9 := wk_s (fnd_at hJ.2.2.1 hq1 (hq2.trans (key_eq i t9).symm))
                  refine lv_aload_n hx hb dL_isSound_510 rfl (lv_at hl 7 rfl) ?_
                  refine lv_sipush (v := 1000) hx hb dL_isSound_511 (by decide) ?_
                  refine lv_bipush (v := 10) hx hb dL_isSound_514 (by decide) ?_
                  refine lv_iload hx hb dL_isSound_516 (lv_at hl 2 rfl) ?_
                  refine lv_imul hx hb dL_isSound_518 ?_
                  refine lv_iadd hx hb dL_isSound_519 ?_
                  refine lv_iload hx hb dL_isSound_520 (lv_at hl 0 rfl) ?_
                  refine lv_iadd hx hb dL_isSound_522 ?_
                  refine y_lro (vx_runSW (As := [.ref h, .int ((1000 + (10 * (nI i))) + (nI t9))]) (rest := []) ⟨hx, hb, hml, hown, hts⟩ (c_wk l hl9 G k h a c σ H.size ((1000 + (10 * (nI i))) + (nI t9)) hJ.1) (vx_cwSW 2 hts gL_isSound_L_withKey rfl rfl rfl (by decide +kernel) ⟨Nat.le_of_ble_eq_true rfl, Nat.le_of_ble_eq_true rfl⟩) (yL_pre hS hV (yKeep hP0 (yO_k hS)) hK) rfl rfl hl.1 rfl (lv_room (Nat.le_of_ble_eq_true rfl)) dL_isSound_523 ⟨show cells + 1 ≤ 3600 by omega, show slots + 6 ≤ 21600 by omega⟩) hS (fun r H1 locs1 hr9 hk9 hS1 => ?_)
                  have hS := hS1
                  clear hk9 hS1
                  subst hr9
                  refine y_top (hk9) ?_
                  refine lv_istore (lv' := [(9, .int (nI q9)), (8, .int (nI t9)), (6, .int (nI Lt)), (5, .int (nI i)), (4, .int (((0 + (nI (crd σ.2.2.1 0 (nI σ.2.2.2.2.2) σ.2.2.2.2.1))) + (nI (crd σ.2.2.1 1 (nI σ.2.2.2.2.2) σ.2.2.2.2.1))) + (nI (crd σ.2.2.1 2 (nI σ.2.2.2.2.2) σ.2.2.2.2.1)))), (3, .int ((((0 + (f_has 0 σ)) + (f_has 1 σ)) + (f_has 2 σ)) + (f_has 3 σ))), (2, .int (nI σ.2.1)), (1, .int (nI σ.2.2.2.2.1)), (0, .ref h)]) hx hb dL_isSound_526 hl (by decide) rfl (fun ls hl => ?_)
                  refine lv_iload hx hb dL_isSound_528 (lv_at hl 0 rfl) ?_
                  refine lv_if_lt (tgt := 557) hx hb dL_isSound_530 (by decide) (fun c9 => absurd c9 (nI_pos (n := q9) (by omega))) (fun _ => ?_)
                  refine lv_aload_n hx hb dL_isSound_533 rfl (lv_at hl 8 rfl) ?_
                  refine lv_iload hx hb dL_isSound_534 (lv_at hl 0 rfl) ?_
                  refine lv_iconst (v := 0) hx hb dL_isSound_536 (by decide) ?_
                  refine y_lro (vx_runSW (As := [.ref h, .int (nI q9), .int 0]) (rest := []) ⟨hx, hb, hml, hown, hts⟩ (c_msg_0 l hl9 G k h a c σ H1.size (nI q9) hJ.1) (vx_cwSW 3 hts gL_isSound_L_message rfl rfl rfl (by decide +kernel) ⟨Nat.le_of_ble_eq_true rfl, Nat.le_of_ble_eq_true rfl⟩) (yL_pre hS hV (yKeep hP0 (yO_k hS)) hK) rfl rfl hl.1 rfl (lv_room (Nat.le_of_ble_eq_true rfl)) dL_isSound_537 ⟨show cells + 1 + 1 ≤ 3600 by omega, show slots + 6 + 6 ≤ 21600 by omega⟩) hS (fun r H1 locs1 hr9 hk9 hS1 => ?_)
                  have hS := hS1
                  clear hk9 hS1
                  subst hr9
                  refine y_top ((msg_0 hJ hq1).trans hq3) ?_
                  refine lv_bipush (v := 100) hx hb dL_isSound_540 (by decide) ?_
                  refine lv_icmp_ne (tgt := 557) hx hb dL_isSound_542 (by decide) (fun c9 => absurd c9 (by decide)) (fun _ => ?_)
                  refine lv_aload_n hx hb dL_isSound_545 rfl (lv_at hl 8 rfl) ?_
                  refine lv_iload hx hb dL_isSound_546 (lv_at hl 0 rfl) ?_
                  refine lv_iconst (v := 1) hx hb dL_isSound_548 (by decide) ?_
                  refine y_lro (vx_runSW (As := [.ref h, .int (nI q9), .int 1]) (rest := []) ⟨hx, hb, hml, hown, hts⟩ (c_msg_1 l hl9 G k h a c σ H1.size (nI q9) hJ.1) (vx_cwSW 3 hts gL_isSound_L_message rfl rfl rfl (by decide +kernel) ⟨Nat.le_of_ble_eq_true rfl, Nat.le_of_ble_eq_true rfl⟩) (yL_pre hS hV (yKeep hP0 (yO_k hS)) hK) rfl rfl hl.1 rfl (lv_room (Nat.le_of_ble_eq_true rfl)) dL_isSound_549 ⟨show cells + 1 + 1 + 1 ≤ 3600 by omega, show slots + 6 + 6 + 6 ≤ 21600 by omega⟩) hS (fun r H1 locs1 hr9 hk9 hS1 => ?_)
                  have hS := hS1
                  clear hk9 hS1
                  subst hr9
                  refine y_top ((msg_1 hJ hq1).trans hq4) ?_
                  refine lv_bipush (v := 114) hx hb dL_isSound_552 (by decide) ?_
                  refine lv_icmp_eq (tgt := 559) hx hb dL_isSound_554 (by decide) (fun _ => ?_) (fun c9 => absurd c9 (by decide))
                  refine lv_iinc (v := (nI (t9 + 1))) (lv' := [(8, .int (nI (t9 + 1))), (9, .int (nI q9)), (6, .int (nI Lt)), (5, .int (nI i)), (4, .int (((0 + (nI (crd σ.2.2.1 0 (nI σ.2.2.2.2.2) σ.2.2.2.2.1))) + (nI (crd σ.2.2.1 1 (nI σ.2.2.2.2.2) σ.2.2.2.2.1))) + (nI (crd σ.2.2.1 2 (nI σ.2.2.2.2.2) σ.2.2.2.2.1)))), (3, .int ((((0 + (f_has 0 σ)) + (f_has 1 σ)) + (f_has 2 σ)) + (f_has 3 σ))), (2, .int (nI σ.2.1)), (1, .int (nI σ.2.2.2.2.1)), (0, .ref h)]) hx hb dL_isSound_559 hl (k := 1) rfl (nI_1 t9) (by decide) rfl (fun ls hl => ?_)
                  refine lv_goto (tgt := 503) hx hb dL_isSound_562 (by decide) ?_
                  exact ih503 r2 (t9 + 1) _ _ _ _ _ (by omega) ⟨(by omega), hS, (by (try dsimp only); omega), (by (try dsimp only); omega), lv_sub hl [0, 2, 3, 4, 5, 6, 7, 8] rfl⟩
              refine lv_iload hx hb dL_isSound_423 (lv_at hl 1 rfl) ?_
              refine lv_aload_n hx hb dL_isSound_425 rfl (lv_at hl 7 rfl) ?_
              refine lv_iload hx hb dL_isSound_426 (lv_at hl 2 rfl) ?_
              refine lv_iconst (v := 2) hx hb dL_isSound_428 (by decide) ?_
              refine y_lro (vx_runSW (As := [.ref h, .int (nI i), .int 2]) (rest := [.int (nI Lt)]) ⟨hx, hb, hml, hown, hts⟩ (c_of_2 l hl9 G k h a c σ H1.size (nI i) hJ.1) (vx_cwSW 3 hts gL_isSound_L_of rfl rfl rfl (by decide +kernel) ⟨Nat.le_of_ble_eq_true rfl, Nat.le_of_ble_eq_true rfl⟩) (yL_pre hS hV (yKeep hP0 (yO_k hS)) hK) rfl rfl hl.1 rfl (lv_room (Nat.le_of_ble_eq_true rfl)) dL_isSound_429 ⟨show cells + 1 + 2 + 1 ≤ 3600 by omega, show slots + 6 + 12 + 6 ≤ 21600 by omega⟩) hS (fun r H1 locs1 hr9 hk9 hS1 => ?_)
              have hS := hS1
              clear hk9 hS1
              subst hr9
              refine y_top ((of_2 hJ c402).trans hL2) ?_
              refine lv_icmp_ne (tgt := 498) hx hb dL_isSound_432 (by decide) (fun c9 => absurd (rfl : nI Lt = nI Lt) c9) (fun _ => ?_)
              refine lv_iload hx hb dL_isSound_435 (lv_at hl 1 rfl) ?_
              refine lv_if_lt (tgt := 498) hx hb dL_isSound_437 (by decide) (fun c9 => absurd c9 (nI_pos (n := Lt) (by omega))) (fun _ => ?_)
              refine lv_iload hx hb dL_isSound_440 (lv_at hl 1 rfl) ?_
              refine lv_iconst (v := 3) hx hb dL_isSound_442 (by decide) ?_
              refine lv_icmp_gt (tgt := 498) hx hb dL_isSound_443 (by decide) (fun c9 => absurd c9 (Int32.not_lt.mpr (show nI Lt ≤ nI 3 from yn_le hL1 (by decide)))) (fun _ => ?_)
              refine lv_iload hx hb dL_isSound_446 (lv_at hl 0 rfl) ?_
              refine lv_if_lt (tgt := 500) hx hb dL_isSound_448 (by decide) (fun c448 => ?_) (fun c448 => ?_)
              · skip
                exact K500 _ _ _ _ ⟨hS, by omega, by omega⟩
              · skip
                have hm := of_may hJ c402 c448
                have h3 := of_3y hJ c402 hm
                refine lv_iload hx hb dL_isSound_451 (lv_at hl 0 rfl) ?_
                refine lv_aload_n hx hb dL_isSound_453 rfl (lv_at hl 7 rfl) ?_
                refine y_roV (As := []) (rest := [.int (f_of 3 (nI i) σ)]) ⟨hx, hb, hml, hown, hts⟩ (c_X2_day l G k h a c σ.1 σ.2.1 σ.2.2.1 σ.2.2.2.1 σ.2.2.2.2.1 σ.2.2.2.2.2) (cwV 0 hts gL_isSound_X2_day rfl rfl rfl (by decide +kernel) ⟨Nat.le_of_ble_eq_true rfl, Nat.le_of_ble_eq_true rfl⟩) hK (yKeep hP0 (yO_k hS)) (va_recv hK (yKeep hP0 (yO_k hS)) (ci := 4) (q0 := 0) rfl rfl) rfl hl.1 rfl (Nat.le_of_ble_eq_true rfl) dL_isSound_454 ⟨show cells + 1 + 2 + 1 ≤ 3600 by omega, show slots + 6 + 12 + 6 ≤ 21600 by omega⟩ (fun r hr9 => ?_)
                subst hr9
                refine lv_icmp_le (tgt := 498) hx hb dL_isSound_457 (by decide) (fun c9 => absurd c9 (by rw [h3]; exact J_next (J_d hJ))) (fun _ => ?_)
                refine lv_aload_n hx hb dL_isSound_460 rfl (lv_at hl 7 rfl) ?_
                refine lv_iload hx hb dL_isSound_461 (lv_at hl 2 rfl) ?_
                refine lv_iconst (v := 0) hx hb dL_isSound_463 (by decide) ?_
                refine y_lro (vx_runSW (As := [.ref h, .int (nI i), .int 0]) (rest := []) ⟨hx, hb, hml, hown, hts⟩ (c_of_0 l hl9 G k h a c σ H1.size (nI i) hJ.1) (vx_cwSW 3 hts gL_isSound_L_of rfl rfl rfl (by decide +kernel) ⟨Nat.le_of_ble_eq_true rfl, Nat.le_of_ble_eq_true rfl⟩) (yL_pre hS hV (yKeep hP0 (yO_k hS)) hK) rfl rfl hl.1 rfl (lv_room (Nat.le_of_ble_eq_true rfl)) dL_isSound_464 ⟨show cells + 1 + 2 + 1 + 1 ≤ 3600 by omega, show slots + 6 + 12 + 6 + 6 ≤ 21600 by omega⟩) hS (fun r H1 locs1 hr9 hk9 hS1 => ?_)
                have hS := hS1
                clear hk9 hS1
                subst hr9
                refine y_top (of_0 hJ c402) ?_
                refine lv_if_eq (tgt := 498) hx hb dL_isSound_467 (by decide) (fun c9 => absurd c9 (fun h9 => by have h8 := hm.1.1; rw [h9] at h8; exact absurd h8 (by decide))) (fun _ => ?_)
                refine lv_iload hx hb dL_isSound_470 (lv_at hl 1 rfl) ?_
                refine lv_iconst (v := 3) hx hb dL_isSound_472 (by decide) ?_
                refine lv_icmp_eq (tgt := 498) hx hb dL_isSound_473 (by decide) (fun c9 => absurd c9 (fun h9 => by have h8 := hm.1.2.2; rw [hL2, h9] at h8; exact absurd h8 (by decide))) (fun _ => ?_)
                refine lv_aload_n hx hb dL_isSound_476 rfl (lv_at hl 7 rfl) ?_
                refine lv_sipush (v := 1000) hx hb dL_isSound_477 (by decide) ?_
                refine lv_bipush (v := 10) hx hb dL_isSound_480 (by decide) ?_
                refine lv_iload hx hb dL_isSound_482 (lv_at hl 2 rfl) ?_
                refine lv_imul hx hb dL_isSound_484 ?_
                refine lv_iadd hx hb dL_isSound_485 ?_
                refine lv_iload hx hb dL_isSound_486 (lv_at hl 1 rfl) ?_
                refine lv_iadd hx hb dL_isSound_488 ?_
                refine y_lro (vx_runSW (As := [.ref h, .int ((1000 + (10 * (nI i))) + (nI Lt))]) (rest := []) ⟨hx, hb, hml, hown, hts⟩ (c_wk l hl9 G k h a c σ H1.size ((1000 + (10 * (nI i))) + (nI Lt)) hJ.1) (vx_cwSW 2 hts gL_isSound_L_withKey rfl rfl rfl (by decide +kernel) ⟨Nat.le_of_ble_eq_true rfl, Nat.le_of_ble_eq_true rfl⟩) (yL_pre hS hV (yKeep hP0 (yO_k hS)) hK) rfl rfl hl.1 rfl (lv_room (Nat.le_of_ble_eq_true rfl)) dL_isSound_489 ⟨show cells + 1 + 2 + 1 + 1 + 1 ≤ 3600 by omega, show slots + 6 + 12 + 6 + 6 + 6 ≤ 21600 by omega⟩) hS (fun r H1 locs1 hr9 hk9 hS1 => ?_)
                have hS := hS1
                clear hk9 hS1
                subst hr9
                refine y_top (wk_n (by rw [← hL2]; exact hm.2)) ?_
                refine lv_sipush (v := (-1001)) hx hb dL_isSound_492 (by decide) ?_
                refine lv_icmp_eq (tgt := 500) hx hb dL_isSound_495 (by decide) (fun _ => ?_) (fun c9 => absurd c9 (by decide))
                exact K500 _ _ _ _ ⟨hS, by omega, by omega⟩
          · skip
            have c292 : kk < crd σ.2.2.1 2 (nI σ.2.2.2.2.2) σ.2.2.2.2.1 := Nat.not_le.mp (fun h9 => c292 ((nI_leI (a := crd σ.2.2.1 2 (nI σ.2.2.2.2.2) σ.2.2.2.2.1) (b := kk) (by omega) (by omega)).mpr h9))
            obtain ⟨r2, rfl⟩ : ∃ z, r = z + 1 := ⟨r - 1, by omega⟩
            obtain ⟨j, hj1, hj2, hj3, hj4⟩ := rap_w hJ (q := 2) (by decide) c292
            have hro := rd_ok hJ hrd c292 hj1
            refine lv_aload_n hx hb dL_isSound_295 rfl (lv_at hl 9 rfl) ?_
            refine lv_iload hx hb dL_isSound_296 (lv_at hl 4 rfl) ?_
            refine lv_iload hx hb dL_isSound_298 (lv_at hl 0 rfl) ?_
            refine y_lro (vx_runSW (As := [.ref h, .int 2, .int (nI kk)]) (rest := []) ⟨hx, hb, hml, hown, hts⟩ (c_rap l hl9 G k h a c σ H.size 2 (nI kk) hJ.1 (nI_m1 (by omega))) (vx_cwSW 3 hts gL_isSound_L_ready rfl rfl rfl (by decide +kernel) ⟨Nat.le_of_ble_eq_true rfl, Nat.le_of_ble_eq_true rfl⟩) (yL_pre hS hV (yKeep hP0 (yO_k hS)) hK) rfl rfl hl.1 rfl (lv_room (Nat.le_of_ble_eq_true rfl)) dL_isSound_300 ⟨show cells + 2 ≤ 3600 by omega, show slots + 12 ≤ 21600 by omega⟩) hS (fun r H1 locs1 hr9 hk9 hS1 => ?_)
            have hS := hS1
            clear hk9 hS1
            subst hr9
            refine y_top (hj2) ?_
            refine lv_istore (lv' := [(10, .int (nI j)), (9, .int (nI kk)), (8, .int la), (7, .int dy), (6, .int (nI (crd σ.2.2.1 2 (nI σ.2.2.2.2.2) σ.2.2.2.2.1))), (5, .int 2), (4, .int ((0 + (nI (crd σ.2.2.1 0 (nI σ.2.2.2.2.2) σ.2.2.2.2.1))) + (nI (crd σ.2.2.1 1 (nI σ.2.2.2.2.2) σ.2.2.2.2.1)))), (3, .int ((((0 + (f_has 0 σ)) + (f_has 1 σ)) + (f_has 2 σ)) + (f_has 3 σ))), (2, .int (nI σ.2.1)), (1, .int (nI σ.2.2.2.2.1)), (0, .ref h)]) hx hb dL_isSound_303 hl (by decide) rfl (fun ls hl => ?_)
            refine lv_aload_n hx hb dL_isSound_305 rfl (lv_at hl 10 rfl) ?_
            refine lv_iload hx hb dL_isSound_306 (lv_at hl 0 rfl) ?_
            refine lv_iconst (v := 0) hx hb dL_isSound_308 (by decide) ?_
            refine y_lro (vx_runSW (As := [.ref h, .int (nI j), .int 0]) (rest := []) ⟨hx, hb, hml, hown, hts⟩ (c_msg_0 l hl9 G k h a c σ H1.size (nI j) hJ.1) (vx_cwSW 3 hts gL_isSound_L_message rfl rfl rfl (by decide +kernel) ⟨Nat.le_of_ble_eq_true rfl, Nat.le_of_ble_eq_true rfl⟩) (yL_pre hS hV (yKeep hP0 (yO_k hS)) hK) rfl rfl hl.1 rfl (lv_room (Nat.le_of_ble_eq_true rfl)) dL_isSound_309 ⟨show cells + 2 + 1 ≤ 3600 by omega, show slots + 12 + 6 ≤ 21600 by omega⟩) hS (fun r H1 locs1 hr9 hk9 hS1 => ?_)
            have hS := hS1
            clear hk9 hS1
            subst hr9
            refine y_top ((msg_0 hJ hj3).trans hj4.2.1) ?_
            refine lv_bipush (v := 119) hx hb dL_isSound_312 (by decide) ?_
            refine lv_icmp_ne (tgt := 362) hx hb dL_isSound_314 (by decide) (fun c9 => absurd c9 (by decide)) (fun _ => ?_)
            refine lv_aload_n hx hb dL_isSound_317 rfl (lv_at hl 10 rfl) ?_
            refine lv_iload hx hb dL_isSound_318 (lv_at hl 0 rfl) ?_
            refine lv_iconst (v := 3) hx hb dL_isSound_320 (by decide) ?_
            refine y_lro (vx_runSW (As := [.ref h, .int (nI j), .int 3]) (rest := []) ⟨hx, hb, hml, hown, hts⟩ (c_msg_3 l hl9 G k h a c σ H1.size (nI j) hJ.1) (vx_cwSW 3 hts gL_isSound_L_message rfl rfl rfl (by decide +kernel) ⟨Nat.le_of_ble_eq_true rfl, Nat.le_of_ble_eq_true rfl⟩) (yL_pre hS hV (yKeep hP0 (yO_k hS)) hK) rfl rfl hl.1 rfl (lv_room (Nat.le_of_ble_eq_true rfl)) dL_isSound_321 ⟨show cells + 2 + 1 + 2 ≤ 3600 by omega, show slots + 12 + 6 + 12 ≤ 21600 by omega⟩) hS (fun r H1 locs1 hr9 hk9 hS1 => ?_)
            have hS := hS1
            clear hk9 hS1
            subst hr9
            refine y_top ((msg_3 hJ hj3).trans (if_pos hj4.2.1)) ?_
            refine lv_aload_n hx hb dL_isSound_324 rfl (lv_at hl 10 rfl) ?_
            refine y_roV (As := []) (rest := [.int (σ.2.2.1 6 j)]) ⟨hx, hb, hml, hown, hts⟩ (c_X2_day l G k h a c σ.1 σ.2.1 σ.2.2.1 σ.2.2.2.1 σ.2.2.2.2.1 σ.2.2.2.2.2) (cwV 0 hts gL_isSound_X2_day rfl rfl rfl (by decide +kernel) ⟨Nat.le_of_ble_eq_true rfl, Nat.le_of_ble_eq_true rfl⟩) hK (yKeep hP0 (yO_k hS)) (va_recv hK (yKeep hP0 (yO_k hS)) (ci := 4) (q0 := 0) rfl rfl) rfl hl.1 rfl (Nat.le_of_ble_eq_true rfl) dL_isSound_325 ⟨show cells + 2 + 1 + 2 ≤ 3600 by omega, show slots + 12 + 6 + 12 ≤ 21600 by omega⟩ (fun r hr9 => ?_)
            subst hr9
            refine lv_icmp_gt (tgt := 362) hx hb dL_isSound_328 (by decide) (fun c9 => absurd c9 (Int32.not_lt.mpr hj4.2.2)) (fun _ => ?_)
            refine lv_aload_n hx hb dL_isSound_331 rfl (lv_at hl 10 rfl) ?_
            refine lv_iload hx hb dL_isSound_332 (lv_at hl 0 rfl) ?_
            refine lv_iconst (v := 3) hx hb dL_isSound_334 (by decide) ?_
            refine y_lro (vx_runSW (As := [.ref h, .int (nI j), .int 3]) (rest := []) ⟨hx, hb, hml, hown, hts⟩ (c_msg_3 l hl9 G k h a c σ H1.size (nI j) hJ.1) (vx_cwSW 3 hts gL_isSound_L_message rfl rfl rfl (by decide +kernel) ⟨Nat.le_of_ble_eq_true rfl, Nat.le_of_ble_eq_true rfl⟩) (yL_pre hS hV (yKeep hP0 (yO_k hS)) hK) rfl rfl hl.1 rfl (lv_room (Nat.le_of_ble_eq_true rfl)) dL_isSound_335 ⟨show cells + 2 + 1 + 2 + 2 ≤ 3600 by omega, show slots + 12 + 6 + 12 + 12 ≤ 21600 by omega⟩) hS (fun r H1 locs1 hr9 hk9 hS1 => ?_)
            have hS := hS1
            clear hk9 hS1
            subst hr9
            refine y_top ((msg_3 hJ hj3).trans (if_pos hj4.2.1)) ?_
            refine lv_iload hx hb dL_isSound_338 (lv_at hl 3 rfl) ?_
            refine lv_icmp_lt (tgt := 362) hx hb dL_isSound_340 (by decide) (fun c9 => absurd c9 hro.1) (fun _ => ?_)
            refine y_join (pc1 := 364) (ls1 := ls) (st1 := []) (fun (H : Heap) (locs : List Loc) (cells slots : Nat) => yO s H locs ∧ cells + (2 + (11 * r2 + 150)) ≤ 3600 ∧ slots + (12 + (66 * r2 + 900)) ≤ 21600) (fun H locs cells slots hP9 => ?_) (fun K364 => ?_)
            · obtain ⟨hS, hb1, hb2⟩ := hP9
              refine lv_aload_n hx hb dL_isSound_364 rfl (lv_at hl 10 rfl) ?_
              refine lv_iload hx hb dL_isSound_365 (lv_at hl 0 rfl) ?_
              refine lv_iconst (v := 3) hx hb dL_isSound_367 (by decide) ?_
              refine y_lro (vx_runSW (As := [.ref h, .int (nI j), .int 3]) (rest := []) ⟨hx, hb, hml, hown, hts⟩ (c_msg_3 l hl9 G k h a c σ H.size (nI j) hJ.1) (vx_cwSW 3 hts gL_isSound_L_message rfl rfl rfl (by decide +kernel) ⟨Nat.le_of_ble_eq_true rfl, Nat.le_of_ble_eq_true rfl⟩) (yL_pre hS hV (yKeep hP0 (yO_k hS)) hK) rfl rfl hl.1 rfl (lv_room (Nat.le_of_ble_eq_true rfl)) dL_isSound_368 ⟨show cells + 2 ≤ 3600 by omega, show slots + 12 ≤ 21600 by omega⟩) hS (fun r H1 locs1 hr9 hk9 hS1 => ?_)
              have hS := hS1
              clear hk9 hS1
              subst hr9
              refine y_top ((msg_3 hJ hj3).trans (if_pos hj4.2.1)) ?_
              refine lv_istore (lv' := [(7, .int (σ.2.2.1 6 j)), (10, .int (nI j)), (9, .int (nI kk)), (8, .int la), (6, .int (nI (crd σ.2.2.1 2 (nI σ.2.2.2.2.2) σ.2.2.2.2.1))), (5, .int 2), (4, .int ((0 + (nI (crd σ.2.2.1 0 (nI σ.2.2.2.2.2) σ.2.2.2.2.1))) + (nI (crd σ.2.2.1 1 (nI σ.2.2.2.2.2) σ.2.2.2.2.1)))), (3, .int ((((0 + (f_has 0 σ)) + (f_has 1 σ)) + (f_has 2 σ)) + (f_has 3 σ))), (2, .int (nI σ.2.1)), (1, .int (nI σ.2.2.2.2.1)), (0, .ref h)]) hx hb dL_isSound_371 hl (by decide) rfl (fun ls hl => ?_)
              refine lv_iload hx hb dL_isSound_373 (lv_at hl 1 rfl) ?_
              refine lv_istore (lv' := [(8, .int (nI j)), (7, .int (σ.2.2.1 6 j)), (10, .int (nI j)), (9, .int (nI kk)), (6, .int (nI (crd σ.2.2.1 2 (nI σ.2.2.2.2.2) σ.2.2.2.2.1))), (5, .int 2), (4, .int ((0 + (nI (crd σ.2.2.1 0 (nI σ.2.2.2.2.2) σ.2.2.2.2.1))) + (nI (crd σ.2.2.1 1 (nI σ.2.2.2.2.2) σ.2.2.2.2.1)))), (3, .int ((((0 + (f_has 0 σ)) + (f_has 1 σ)) + (f_has 2 σ)) + (f_has 3 σ))), (2, .int (nI σ.2.1)), (1, .int (nI σ.2.2.2.2.1)), (0, .ref h)]) hx hb dL_isSound_375 hl (by decide) rfl (fun ls hl => ?_)
              refine lv_iinc (v := (nI (kk + 1))) (lv' := [(9, .int (nI (kk + 1))), (8, .int (nI j)), (7, .int (σ.2.2.1 6 j)), (10, .int (nI j)), (6, .int (nI (crd σ.2.2.1 2 (nI σ.2.2.2.2.2) σ.2.2.2.2.1))), (5, .int 2), (4, .int ((0 + (nI (crd σ.2.2.1 0 (nI σ.2.2.2.2.2) σ.2.2.2.2.1))) + (nI (crd σ.2.2.1 1 (nI σ.2.2.2.2.2) σ.2.2.2.2.1)))), (3, .int ((((0 + (f_has 0 σ)) + (f_has 1 σ)) + (f_has 2 σ)) + (f_has 3 σ))), (2, .int (nI σ.2.1)), (1, .int (nI σ.2.2.2.2.1)), (0, .ref h)]) hx hb dL_isSound_377 hl (k := 3) rfl (nI_1 kk) (by decide) rfl (fun ls hl => ?_)
              refine lv_goto (tgt := 288) hx hb dL_isSound_380 (by decide) ?_
              exact ih288 r2 (kk + 1, σ.2.2.1 6 j, nI j) _ _ _ _ _ (by omega) ⟨(by omega), (Or.inr ⟨kk, j, rfl, hj1, rfl, rfl⟩), hS, (by (try dsimp only); omega), (by (try dsimp only); omega), lv_sub hl [0, 1, 2, 4, 5, 6, 7, 8, 9, 10] rfl⟩
            refine lv_aload_n hx hb dL_isSound_343 rfl (lv_at hl 10 rfl) ?_
            refine lv_iload hx hb dL_isSound_344 (lv_at hl 0 rfl) ?_
            refine lv_iconst (v := 3) hx hb dL_isSound_346 (by decide) ?_
            refine y_lro (vx_runSW (As := [.ref h, .int (nI j), .int 3]) (rest := []) ⟨hx, hb, hml, hown, hts⟩ (c_msg_3 l hl9 G k h a c σ H1.size (nI j) hJ.1) (vx_cwSW 3 hts gL_isSound_L_message rfl rfl rfl (by decide +kernel) ⟨Nat.le_of_ble_eq_true rfl, Nat.le_of_ble_eq_true rfl⟩) (yL_pre hS hV (yKeep hP0 (yO_k hS)) hK) rfl rfl hl.1 rfl (lv_room (Nat.le_of_ble_eq_true rfl)) dL_isSound_347 ⟨show cells + 2 + 1 + 2 + 2 + 2 ≤ 3600 by omega, show slots + 12 + 6 + 12 + 12 + 12 ≤ 21600 by omega⟩) hS (fun r H1 locs1 hr9 hk9 hS1 => ?_)
            have hS := hS1
            clear hk9 hS1
            subst hr9
            refine y_top ((msg_3 hJ hj3).trans (if_pos hj4.2.1)) ?_
            refine lv_iload hx hb dL_isSound_350 (lv_at hl 3 rfl) ?_
            refine lv_icmp_ne (tgt := 364) hx hb dL_isSound_352 (by decide) (fun c352 => ?_) (fun c352 => ?_)
            · skip
              exact K364 _ _ _ _ ⟨hS, by omega, by omega⟩
            · skip
              refine lv_iload hx hb dL_isSound_355 (lv_at hl 0 rfl) ?_
              refine lv_iload hx hb dL_isSound_357 (lv_at hl 2 rfl) ?_
              refine lv_icmp_ge (tgt := 364) hx hb dL_isSound_359 (by decide) (fun _ => ?_) (fun c9 => absurd (hro.2 c352) c9)
              exact K364 _ _ _ _ ⟨hS, by omega, by omega⟩
        · skip
          have c292 : kk < crd σ.2.2.1 1 (nI σ.2.2.2.2.2) σ.2.2.2.2.1 := Nat.not_le.mp (fun h9 => c292 ((nI_leI (a := crd σ.2.2.1 1 (nI σ.2.2.2.2.2) σ.2.2.2.2.1) (b := kk) (by omega) (by omega)).mpr h9))
          obtain ⟨r2, rfl⟩ : ∃ z, r = z + 1 := ⟨r - 1, by omega⟩
          obtain ⟨j, hj1, hj2, hj3, hj4⟩ := rap_w hJ (q := 1) (by decide) c292
          have hro := rd_ok hJ hrd c292 hj1
          refine lv_aload_n hx hb dL_isSound_295 rfl (lv_at hl 9 rfl) ?_
          refine lv_iload hx hb dL_isSound_296 (lv_at hl 4 rfl) ?_
          refine lv_iload hx hb dL_isSound_298 (lv_at hl 0 rfl) ?_
          refine y_lro (vx_runSW (As := [.ref h, .int 1, .int (nI kk)]) (rest := []) ⟨hx, hb, hml, hown, hts⟩ (c_rap l hl9 G k h a c σ H.size 1 (nI kk) hJ.1 (nI_m1 (by omega))) (vx_cwSW 3 hts gL_isSound_L_ready rfl rfl rfl (by decide +kernel) ⟨Nat.le_of_ble_eq_true rfl, Nat.le_of_ble_eq_true rfl⟩) (yL_pre hS hV (yKeep hP0 (yO_k hS)) hK) rfl rfl hl.1 rfl (lv_room (Nat.le_of_ble_eq_true rfl)) dL_isSound_300 ⟨show cells + 2 ≤ 3600 by omega, show slots + 12 ≤ 21600 by omega⟩) hS (fun r H1 locs1 hr9 hk9 hS1 => ?_)
          have hS := hS1
          clear hk9 hS1
          subst hr9
          refine y_top (hj2) ?_
          refine lv_istore (lv' := [(10, .int (nI j)), (9, .int (nI kk)), (8, .int la), (7, .int dy), (6, .int (nI (crd σ.2.2.1 1 (nI σ.2.2.2.2.2) σ.2.2.2.2.1))), (5, .int 1), (4, .int (0 + (nI (crd σ.2.2.1 0 (nI σ.2.2.2.2.2) σ.2.2.2.2.1)))), (3, .int ((((0 + (f_has 0 σ)) + (f_has 1 σ)) + (f_has 2 σ)) + (f_has 3 σ))), (2, .int (nI σ.2.1)), (1, .int (nI σ.2.2.2.2.1)), (0, .ref h)]) hx hb dL_isSound_303 hl (by decide) rfl (fun ls hl => ?_)
          refine lv_aload_n hx hb dL_isSound_305 rfl (lv_at hl 10 rfl) ?_
          refine lv_iload hx hb dL_isSound_306 (lv_at hl 0 rfl) ?_
          refine lv_iconst (v := 0) hx hb dL_isSound_308 (by decide) ?_
          refine y_lro (vx_runSW (As := [.ref h, .int (nI j), .int 0]) (rest := []) ⟨hx, hb, hml, hown, hts⟩ (c_msg_0 l hl9 G k h a c σ H1.size (nI j) hJ.1) (vx_cwSW 3 hts gL_isSound_L_message rfl rfl rfl (by decide +kernel) ⟨Nat.le_of_ble_eq_true rfl, Nat.le_of_ble_eq_true rfl⟩) (yL_pre hS hV (yKeep hP0 (yO_k hS)) hK) rfl rfl hl.1 rfl (lv_room (Nat.le_of_ble_eq_true rfl)) dL_isSound_309 ⟨show cells + 2 + 1 ≤ 3600 by omega, show slots + 12 + 6 ≤ 21600 by omega⟩) hS (fun r H1 locs1 hr9 hk9 hS1 => ?_)
          have hS := hS1
          clear hk9 hS1
          subst hr9
          refine y_top ((msg_0 hJ hj3).trans hj4.2.1) ?_
          refine lv_bipush (v := 119) hx hb dL_isSound_312 (by decide) ?_
          refine lv_icmp_ne (tgt := 362) hx hb dL_isSound_314 (by decide) (fun c9 => absurd c9 (by decide)) (fun _ => ?_)
          refine lv_aload_n hx hb dL_isSound_317 rfl (lv_at hl 10 rfl) ?_
          refine lv_iload hx hb dL_isSound_318 (lv_at hl 0 rfl) ?_
          refine lv_iconst (v := 3) hx hb dL_isSound_320 (by decide) ?_
          refine y_lro (vx_runSW (As := [.ref h, .int (nI j), .int 3]) (rest := []) ⟨hx, hb, hml, hown, hts⟩ (c_msg_3 l hl9 G k h a c σ H1.size (nI j) hJ.1) (vx_cwSW 3 hts gL_isSound_L_message rfl rfl rfl (by decide +kernel) ⟨Nat.le_of_ble_eq_true rfl, Nat.le_of_ble_eq_true rfl⟩) (yL_pre hS hV (yKeep hP0 (yO_k hS)) hK) rfl rfl hl.1 rfl (lv_room (Nat.le_of_ble_eq_true rfl)) dL_isSound_321 ⟨show cells + 2 + 1 + 2 ≤ 3600 by omega, show slots + 12 + 6 + 12 ≤ 21600 by omega⟩) hS (fun r H1 locs1 hr9 hk9 hS1 => ?_)
          have hS := hS1
          clear hk9 hS1
          subst hr9
          refine y_top ((msg_3 hJ hj3).trans (if_pos hj4.2.1)) ?_
          refine lv_aload_n hx hb dL_isSound_324 rfl (lv_at hl 10 rfl) ?_
          refine y_roV (As := []) (rest := [.int (σ.2.2.1 6 j)]) ⟨hx, hb, hml, hown, hts⟩ (c_X2_day l G k h a c σ.1 σ.2.1 σ.2.2.1 σ.2.2.2.1 σ.2.2.2.2.1 σ.2.2.2.2.2) (cwV 0 hts gL_isSound_X2_day rfl rfl rfl (by decide +kernel) ⟨Nat.le_of_ble_eq_true rfl, Nat.le_of_ble_eq_true rfl⟩) hK (yKeep hP0 (yO_k hS)) (va_recv hK (yKeep hP0 (yO_k hS)) (ci := 4) (q0 := 0) rfl rfl) rfl hl.1 rfl (Nat.le_of_ble_eq_true rfl) dL_isSound_325 ⟨show cells + 2 + 1 + 2 ≤ 3600 by omega, show slots + 12 + 6 + 12 ≤ 21600 by omega⟩ (fun r hr9 => ?_)
          subst hr9
          refine lv_icmp_gt (tgt := 362) hx hb dL_isSound_328 (by decide) (fun c9 => absurd c9 (Int32.not_lt.mpr hj4.2.2)) (fun _ => ?_)
          refine lv_aload_n hx hb dL_isSound_331 rfl (lv_at hl 10 rfl) ?_
          refine lv_iload hx hb dL_isSound_332 (lv_at hl 0 rfl) ?_
          refine lv_iconst (v := 3) hx hb dL_isSound_334 (by decide) ?_
          refine y_lro (vx_runSW (As := [.ref h, .int (nI j), .int 3]) (rest := []) ⟨hx, hb, hml, hown, hts⟩ (c_msg_3 l hl9 G k h a c σ H1.size (nI j) hJ.1) (vx_cwSW 3 hts gL_isSound_L_message rfl rfl rfl (by decide +kernel) ⟨Nat.le_of_ble_eq_true rfl, Nat.le_of_ble_eq_true rfl⟩) (yL_pre hS hV (yKeep hP0 (yO_k hS)) hK) rfl rfl hl.1 rfl (lv_room (Nat.le_of_ble_eq_true rfl)) dL_isSound_335 ⟨show cells + 2 + 1 + 2 + 2 ≤ 3600 by omega, show slots + 12 + 6 + 12 + 12 ≤ 21600 by omega⟩) hS (fun r H1 locs1 hr9 hk9 hS1 => ?_)
          have hS := hS1
          clear hk9 hS1
          subst hr9
          refine y_top ((msg_3 hJ hj3).trans (if_pos hj4.2.1)) ?_
          refine lv_iload hx hb dL_isSound_338 (lv_at hl 3 rfl) ?_
          refine lv_icmp_lt (tgt := 362) hx hb dL_isSound_340 (by decide) (fun c9 => absurd c9 hro.1) (fun _ => ?_)
          refine y_join (pc1 := 364) (ls1 := ls) (st1 := []) (fun (H : Heap) (locs : List Loc) (cells slots : Nat) => yO s H locs ∧ cells + (2 + (11 * r2 + 1031)) ≤ 3600 ∧ slots + (12 + (66 * r2 + 6186)) ≤ 21600) (fun H locs cells slots hP9 => ?_) (fun K364 => ?_)
          · obtain ⟨hS, hb1, hb2⟩ := hP9
            refine lv_aload_n hx hb dL_isSound_364 rfl (lv_at hl 10 rfl) ?_
            refine lv_iload hx hb dL_isSound_365 (lv_at hl 0 rfl) ?_
            refine lv_iconst (v := 3) hx hb dL_isSound_367 (by decide) ?_
            refine y_lro (vx_runSW (As := [.ref h, .int (nI j), .int 3]) (rest := []) ⟨hx, hb, hml, hown, hts⟩ (c_msg_3 l hl9 G k h a c σ H.size (nI j) hJ.1) (vx_cwSW 3 hts gL_isSound_L_message rfl rfl rfl (by decide +kernel) ⟨Nat.le_of_ble_eq_true rfl, Nat.le_of_ble_eq_true rfl⟩) (yL_pre hS hV (yKeep hP0 (yO_k hS)) hK) rfl rfl hl.1 rfl (lv_room (Nat.le_of_ble_eq_true rfl)) dL_isSound_368 ⟨show cells + 2 ≤ 3600 by omega, show slots + 12 ≤ 21600 by omega⟩) hS (fun r H1 locs1 hr9 hk9 hS1 => ?_)
            have hS := hS1
            clear hk9 hS1
            subst hr9
            refine y_top ((msg_3 hJ hj3).trans (if_pos hj4.2.1)) ?_
            refine lv_istore (lv' := [(7, .int (σ.2.2.1 6 j)), (10, .int (nI j)), (9, .int (nI kk)), (8, .int la), (6, .int (nI (crd σ.2.2.1 1 (nI σ.2.2.2.2.2) σ.2.2.2.2.1))), (5, .int 1), (4, .int (0 + (nI (crd σ.2.2.1 0 (nI σ.2.2.2.2.2) σ.2.2.2.2.1)))), (3, .int ((((0 + (f_has 0 σ)) + (f_has 1 σ)) + (f_has 2 σ)) + (f_has 3 σ))), (2, .int (nI σ.2.1)), (1, .int (nI σ.2.2.2.2.1)), (0, .ref h)]) hx hb dL_isSound_371 hl (by decide) rfl (fun ls hl => ?_)
            refine lv_iload hx hb dL_isSound_373 (lv_at hl 1 rfl) ?_
            refine lv_istore (lv' := [(8, .int (nI j)), (7, .int (σ.2.2.1 6 j)), (10, .int (nI j)), (9, .int (nI kk)), (6, .int (nI (crd σ.2.2.1 1 (nI σ.2.2.2.2.2) σ.2.2.2.2.1))), (5, .int 1), (4, .int (0 + (nI (crd σ.2.2.1 0 (nI σ.2.2.2.2.2) σ.2.2.2.2.1)))), (3, .int ((((0 + (f_has 0 σ)) + (f_has 1 σ)) + (f_has 2 σ)) + (f_has 3 σ))), (2, .int (nI σ.2.1)), (1, .int (nI σ.2.2.2.2.1)), (0, .ref h)]) hx hb dL_isSound_375 hl (by decide) rfl (fun ls hl => ?_)
            refine lv_iinc (v := (nI (kk + 1))) (lv' := [(9, .int (nI (kk + 1))), (8, .int (nI j)), (7, .int (σ.2.2.1 6 j)), (10, .int (nI j)), (6, .int (nI (crd σ.2.2.1 1 (nI σ.2.2.2.2.2) σ.2.2.2.2.1))), (5, .int 1), (4, .int (0 + (nI (crd σ.2.2.1 0 (nI σ.2.2.2.2.2) σ.2.2.2.2.1)))), (3, .int ((((0 + (f_has 0 σ)) + (f_has 1 σ)) + (f_has 2 σ)) + (f_has 3 σ))), (2, .int (nI σ.2.1)), (1, .int (nI σ.2.2.2.2.1)), (0, .ref h)]) hx hb dL_isSound_377 hl (k := 3) rfl (nI_1 kk) (by decide) rfl (fun ls hl => ?_)
            refine lv_goto (tgt := 288) hx hb dL_isSound_380 (by decide) ?_
            exact ih288 r2 (kk + 1, σ.2.2.1 6 j, nI j) _ _ _ _ _ (by omega) ⟨(by omega), (Or.inr ⟨kk, j, rfl, hj1, rfl, rfl⟩), hS, (by (try dsimp only); omega), (by (try dsimp only); omega), lv_sub hl [0, 1, 2, 4, 5, 6, 7, 8, 9, 10] rfl⟩
          refine lv_aload_n hx hb dL_isSound_343 rfl (lv_at hl 10 rfl) ?_
          refine lv_iload hx hb dL_isSound_344 (lv_at hl 0 rfl) ?_
          refine lv_iconst (v := 3) hx hb dL_isSound_346 (by decide) ?_
          refine y_lro (vx_runSW (As := [.ref h, .int (nI j), .int 3]) (rest := []) ⟨hx, hb, hml, hown, hts⟩ (c_msg_3 l hl9 G k h a c σ H1.size (nI j) hJ.1) (vx_cwSW 3 hts gL_isSound_L_message rfl rfl rfl (by decide +kernel) ⟨Nat.le_of_ble_eq_true rfl, Nat.le_of_ble_eq_true rfl⟩) (yL_pre hS hV (yKeep hP0 (yO_k hS)) hK) rfl rfl hl.1 rfl (lv_room (Nat.le_of_ble_eq_true rfl)) dL_isSound_347 ⟨show cells + 2 + 1 + 2 + 2 + 2 ≤ 3600 by omega, show slots + 12 + 6 + 12 + 12 + 12 ≤ 21600 by omega⟩) hS (fun r H1 locs1 hr9 hk9 hS1 => ?_)
          have hS := hS1
          clear hk9 hS1
          subst hr9
          refine y_top ((msg_3 hJ hj3).trans (if_pos hj4.2.1)) ?_
          refine lv_iload hx hb dL_isSound_350 (lv_at hl 3 rfl) ?_
          refine lv_icmp_ne (tgt := 364) hx hb dL_isSound_352 (by decide) (fun c352 => ?_) (fun c352 => ?_)
          · skip
            exact K364 _ _ _ _ ⟨hS, by omega, by omega⟩
          · skip
            refine lv_iload hx hb dL_isSound_355 (lv_at hl 0 rfl) ?_
            refine lv_iload hx hb dL_isSound_357 (lv_at hl 2 rfl) ?_
            refine lv_icmp_ge (tgt := 364) hx hb dL_isSound_359 (by decide) (fun _ => ?_) (fun c9 => absurd (hro.2 c352) c9)
            exact K364 _ _ _ _ ⟨hS, by omega, by omega⟩
      · skip
        have c292 : kk < crd σ.2.2.1 0 (nI σ.2.2.2.2.2) σ.2.2.2.2.1 := Nat.not_le.mp (fun h9 => c292 ((nI_leI (a := crd σ.2.2.1 0 (nI σ.2.2.2.2.2) σ.2.2.2.2.1) (b := kk) (by omega) (by omega)).mpr h9))
        obtain ⟨r2, rfl⟩ : ∃ z, r = z + 1 := ⟨r - 1, by omega⟩
        obtain ⟨j, hj1, hj2, hj3, hj4⟩ := rap_w hJ (q := 0) (by decide) c292
        have hro := rd_ok hJ hrd c292 hj1
        refine lv_aload_n hx hb dL_isSound_295 rfl (lv_at hl 9 rfl) ?_
        refine lv_iload hx hb dL_isSound_296 (lv_at hl 4 rfl) ?_
        refine lv_iload hx hb dL_isSound_298 (lv_at hl 0 rfl) ?_
        refine y_lro (vx_runSW (As := [.ref h, .int 0, .int (nI kk)]) (rest := []) ⟨hx, hb, hml, hown, hts⟩ (c_rap l hl9 G k h a c σ H.size 0 (nI kk) hJ.1 (nI_m1 (by omega))) (vx_cwSW 3 hts gL_isSound_L_ready rfl rfl rfl (by decide +kernel) ⟨Nat.le_of_ble_eq_true rfl, Nat.le_of_ble_eq_true rfl⟩) (yL_pre hS hV (yKeep hP0 (yO_k hS)) hK) rfl rfl hl.1 rfl (lv_room (Nat.le_of_ble_eq_true rfl)) dL_isSound_300 ⟨show cells + 2 ≤ 3600 by omega, show slots + 12 ≤ 21600 by omega⟩) hS (fun r H1 locs1 hr9 hk9 hS1 => ?_)
        have hS := hS1
        clear hk9 hS1
        subst hr9
        refine y_top (hj2) ?_
        refine lv_istore (lv' := [(10, .int (nI j)), (9, .int (nI kk)), (8, .int la), (7, .int dy), (6, .int (nI (crd σ.2.2.1 0 (nI σ.2.2.2.2.2) σ.2.2.2.2.1))), (5, .int 0), (4, .int 0), (3, .int ((((0 + (f_has 0 σ)) + (f_has 1 σ)) + (f_has 2 σ)) + (f_has 3 σ))), (2, .int (nI σ.2.1)), (1, .int (nI σ.2.2.2.2.1)), (0, .ref h)]) hx hb dL_isSound_303 hl (by decide) rfl (fun ls hl => ?_)
        refine lv_aload_n hx hb dL_isSound_305 rfl (lv_at hl 10 rfl) ?_
        refine lv_iload hx hb dL_isSound_306 (lv_at hl 0 rfl) ?_
        refine lv_iconst (v := 0) hx hb dL_isSound_308 (by decide) ?_
        refine y_lro (vx_runSW (As := [.ref h, .int (nI j), .int 0]) (rest := []) ⟨hx, hb, hml, hown, hts⟩ (c_msg_0 l hl9 G k h a c σ H1.size (nI j) hJ.1) (vx_cwSW 3 hts gL_isSound_L_message rfl rfl rfl (by decide +kernel) ⟨Nat.le_of_ble_eq_true rfl, Nat.le_of_ble_eq_true rfl⟩) (yL_pre hS hV (yKeep hP0 (yO_k hS)) hK) rfl rfl hl.1 rfl (lv_room (Nat.le_of_ble_eq_true rfl)) dL_isSound_309 ⟨show cells + 2 + 1 ≤ 3600 by omega, show slots + 12 + 6 ≤ 21600 by omega⟩) hS (fun r H1 locs1 hr9 hk9 hS1 => ?_)
        have hS := hS1
        clear hk9 hS1
        subst hr9
        refine y_top ((msg_0 hJ hj3).trans hj4.2.1) ?_
        refine lv_bipush (v := 119) hx hb dL_isSound_312 (by decide) ?_
        refine lv_icmp_ne (tgt := 362) hx hb dL_isSound_314 (by decide) (fun c9 => absurd c9 (by decide)) (fun _ => ?_)
        refine lv_aload_n hx hb dL_isSound_317 rfl (lv_at hl 10 rfl) ?_
        refine lv_iload hx hb dL_isSound_318 (lv_at hl 0 rfl) ?_
        refine lv_iconst (v := 3) hx hb dL_isSound_320 (by decide) ?_
        refine y_lro (vx_runSW (As := [.ref h, .int (nI j), .int 3]) (rest := []) ⟨hx, hb, hml, hown, hts⟩ (c_msg_3 l hl9 G k h a c σ H1.size (nI j) hJ.1) (vx_cwSW 3 hts gL_isSound_L_message rfl rfl rfl (by decide +kernel) ⟨Nat.le_of_ble_eq_true rfl, Nat.le_of_ble_eq_true rfl⟩) (yL_pre hS hV (yKeep hP0 (yO_k hS)) hK) rfl rfl hl.1 rfl (lv_room (Nat.le_of_ble_eq_true rfl)) dL_isSound_321 ⟨show cells + 2 + 1 + 2 ≤ 3600 by omega, show slots + 12 + 6 + 12 ≤ 21600 by omega⟩) hS (fun r H1 locs1 hr9 hk9 hS1 => ?_)
        have hS := hS1
        clear hk9 hS1
        subst hr9
        refine y_top ((msg_3 hJ hj3).trans (if_pos hj4.2.1)) ?_
        refine lv_aload_n hx hb dL_isSound_324 rfl (lv_at hl 10 rfl) ?_
        refine y_roV (As := []) (rest := [.int (σ.2.2.1 6 j)]) ⟨hx, hb, hml, hown, hts⟩ (c_X2_day l G k h a c σ.1 σ.2.1 σ.2.2.1 σ.2.2.2.1 σ.2.2.2.2.1 σ.2.2.2.2.2) (cwV 0 hts gL_isSound_X2_day rfl rfl rfl (by decide +kernel) ⟨Nat.le_of_ble_eq_true rfl, Nat.le_of_ble_eq_true rfl⟩) hK (yKeep hP0 (yO_k hS)) (va_recv hK (yKeep hP0 (yO_k hS)) (ci := 4) (q0 := 0) rfl rfl) rfl hl.1 rfl (Nat.le_of_ble_eq_true rfl) dL_isSound_325 ⟨show cells + 2 + 1 + 2 ≤ 3600 by omega, show slots + 12 + 6 + 12 ≤ 21600 by omega⟩ (fun r hr9 => ?_)
        subst hr9
        refine lv_icmp_gt (tgt := 362) hx hb dL_isSound_328 (by decide) (fun c9 => absurd c9 (Int32.not_lt.mpr hj4.2.2)) (fun _ => ?_)
        refine lv_aload_n hx hb dL_isSound_331 rfl (lv_at hl 10 rfl) ?_
        refine lv_iload hx hb dL_isSound_332 (lv_at hl 0 rfl) ?_
        refine lv_iconst (v := 3) hx hb dL_isSound_334 (by decide) ?_
        refine y_lro (vx_runSW (As := [.ref h, .int (nI j), .int 3]) (rest := []) ⟨hx, hb, hml, hown, hts⟩ (c_msg_3 l hl9 G k h a c σ H1.size (nI j) hJ.1) (vx_cwSW 3 hts gL_isSound_L_message rfl rfl rfl (by decide +kernel) ⟨Nat.le_of_ble_eq_true rfl, Nat.le_of_ble_eq_true rfl⟩) (yL_pre hS hV (yKeep hP0 (yO_k hS)) hK) rfl rfl hl.1 rfl (lv_room (Nat.le_of_ble_eq_true rfl)) dL_isSound_335 ⟨show cells + 2 + 1 + 2 + 2 ≤ 3600 by omega, show slots + 12 + 6 + 12 + 12 ≤ 21600 by omega⟩) hS (fun r H1 locs1 hr9 hk9 hS1 => ?_)
        have hS := hS1
        clear hk9 hS1
        subst hr9
        refine y_top ((msg_3 hJ hj3).trans (if_pos hj4.2.1)) ?_
        refine lv_iload hx hb dL_isSound_338 (lv_at hl 3 rfl) ?_
        refine lv_icmp_lt (tgt := 362) hx hb dL_isSound_340 (by decide) (fun c9 => absurd c9 hro.1) (fun _ => ?_)
        refine y_join (pc1 := 364) (ls1 := ls) (st1 := []) (fun (H : Heap) (locs : List Loc) (cells slots : Nat) => yO s H locs ∧ cells + (2 + (11 * r2 + 1912)) ≤ 3600 ∧ slots + (12 + (66 * r2 + 11472)) ≤ 21600) (fun H locs cells slots hP9 => ?_) (fun K364 => ?_)
        · obtain ⟨hS, hb1, hb2⟩ := hP9
          refine lv_aload_n hx hb dL_isSound_364 rfl (lv_at hl 10 rfl) ?_
          refine lv_iload hx hb dL_isSound_365 (lv_at hl 0 rfl) ?_
          refine lv_iconst (v := 3) hx hb dL_isSound_367 (by decide) ?_
          refine y_lro (vx_runSW (As := [.ref h, .int (nI j), .int 3]) (rest := []) ⟨hx, hb, hml, hown, hts⟩ (c_msg_3 l hl9 G k h a c σ H.size (nI j) hJ.1) (vx_cwSW 3 hts gL_isSound_L_message rfl rfl rfl (by decide +kernel) ⟨Nat.le_of_ble_eq_true rfl, Nat.le_of_ble_eq_true rfl⟩) (yL_pre hS hV (yKeep hP0 (yO_k hS)) hK) rfl rfl hl.1 rfl (lv_room (Nat.le_of_ble_eq_true rfl)) dL_isSound_368 ⟨show cells + 2 ≤ 3600 by omega, show slots + 12 ≤ 21600 by omega⟩) hS (fun r H1 locs1 hr9 hk9 hS1 => ?_)
          have hS := hS1
          clear hk9 hS1
          subst hr9
          refine y_top ((msg_3 hJ hj3).trans (if_pos hj4.2.1)) ?_
          refine lv_istore (lv' := [(7, .int (σ.2.2.1 6 j)), (10, .int (nI j)), (9, .int (nI kk)), (8, .int la), (6, .int (nI (crd σ.2.2.1 0 (nI σ.2.2.2.2.2) σ.2.2.2.2.1))), (5, .int 0), (4, .int 0), (3, .int ((((0 + (f_has 0 σ)) + (f_has 1 σ)) + (f_has 2 σ)) + (f_has 3 σ))), (2, .int (nI σ.2.1)), (1, .int (nI σ.2.2.2.2.1)), (0, .ref h)]) hx hb dL_isSound_371 hl (by decide) rfl (fun ls hl => ?_)
          refine lv_iload hx hb dL_isSound_373 (lv_at hl 1 rfl) ?_
          refine lv_istore (lv' := [(8, .int (nI j)), (7, .int (σ.2.2.1 6 j)), (10, .int (nI j)), (9, .int (nI kk)), (6, .int (nI (crd σ.2.2.1 0 (nI σ.2.2.2.2.2) σ.2.2.2.2.1))), (5, .int 0), (4, .int 0), (3, .int ((((0 + (f_has 0 σ)) + (f_has 1 σ)) + (f_has 2 σ)) + (f_has 3 σ))), (2, .int (nI σ.2.1)), (1, .int (nI σ.2.2.2.2.1)), (0, .ref h)]) hx hb dL_isSound_375 hl (by decide) rfl (fun ls hl => ?_)
          refine lv_iinc (v := (nI (kk + 1))) (lv' := [(9, .int (nI (kk + 1))), (8, .int (nI j)), (7, .int (σ.2.2.1 6 j)), (10, .int (nI j)), (6, .int (nI (crd σ.2.2.1 0 (nI σ.2.2.2.2.2) σ.2.2.2.2.1))), (5, .int 0), (4, .int 0), (3, .int ((((0 + (f_has 0 σ)) + (f_has 1 σ)) + (f_has 2 σ)) + (f_has 3 σ))), (2, .int (nI σ.2.1)), (1, .int (nI σ.2.2.2.2.1)), (0, .ref h)]) hx hb dL_isSound_377 hl (k := 3) rfl (nI_1 kk) (by decide) rfl (fun ls hl => ?_)
          refine lv_goto (tgt := 288) hx hb dL_isSound_380 (by decide) ?_
          exact ih288 r2 (kk + 1, σ.2.2.1 6 j, nI j) _ _ _ _ _ (by omega) ⟨(by omega), (Or.inr ⟨kk, j, rfl, hj1, rfl, rfl⟩), hS, (by (try dsimp only); omega), (by (try dsimp only); omega), lv_sub hl [0, 1, 2, 4, 5, 6, 7, 8, 9, 10] rfl⟩
        refine lv_aload_n hx hb dL_isSound_343 rfl (lv_at hl 10 rfl) ?_
        refine lv_iload hx hb dL_isSound_344 (lv_at hl 0 rfl) ?_
        refine lv_iconst (v := 3) hx hb dL_isSound_346 (by decide) ?_
        refine y_lro (vx_runSW (As := [.ref h, .int (nI j), .int 3]) (rest := []) ⟨hx, hb, hml, hown, hts⟩ (c_msg_3 l hl9 G k h a c σ H1.size (nI j) hJ.1) (vx_cwSW 3 hts gL_isSound_L_message rfl rfl rfl (by decide +kernel) ⟨Nat.le_of_ble_eq_true rfl, Nat.le_of_ble_eq_true rfl⟩) (yL_pre hS hV (yKeep hP0 (yO_k hS)) hK) rfl rfl hl.1 rfl (lv_room (Nat.le_of_ble_eq_true rfl)) dL_isSound_347 ⟨show cells + 2 + 1 + 2 + 2 + 2 ≤ 3600 by omega, show slots + 12 + 6 + 12 + 12 + 12 ≤ 21600 by omega⟩) hS (fun r H1 locs1 hr9 hk9 hS1 => ?_)
        have hS := hS1
        clear hk9 hS1
        subst hr9
        refine y_top ((msg_3 hJ hj3).trans (if_pos hj4.2.1)) ?_
        refine lv_iload hx hb dL_isSound_350 (lv_at hl 3 rfl) ?_
        refine lv_icmp_ne (tgt := 364) hx hb dL_isSound_352 (by decide) (fun c352 => ?_) (fun c352 => ?_)
        · skip
          exact K364 _ _ _ _ ⟨hS, by omega, by omega⟩
        · skip
          refine lv_iload hx hb dL_isSound_355 (lv_at hl 0 rfl) ?_
          refine lv_iload hx hb dL_isSound_357 (lv_at hl 2 rfl) ?_
          refine lv_icmp_ge (tgt := 364) hx hb dL_isSound_359 (by decide) (fun _ => ?_) (fun c9 => absurd (hro.2 c352) c9)
          exact K364 _ _ _ _ ⟨hS, by omega, by omega⟩
    · skip
      have c96 : i < σ.2.2.2.2.1 := Nat.not_le.mp (fun h9 => c96 ((nI_leI (a := σ.2.2.2.2.1) (b := i) (by omega) (by omega)).mpr h9))
      obtain ⟨r1, rfl⟩ : ∃ z, r = z + 1 := ⟨r - 1, by omega⟩
      have hm := J_m hJ c96
      have hq := J_q hJ c96
      refine lv_aload_n hx hb dL_isSound_99 rfl (lv_at hl 4 rfl) ?_
      refine lv_iload hx hb dL_isSound_100 (lv_at hl 0 rfl) ?_
      refine lv_iconst (v := 0) hx hb dL_isSound_102 (by decide) ?_
      refine y_lro (vx_runSW (As := [.ref h, .int (nI i), .int 0]) (rest := []) ⟨hx, hb, hml, hown, hts⟩ (c_msg_0 l hl9 G k h a c σ H.size (nI i) hJ.1) (vx_cwSW 3 hts gL_isSound_L_message rfl rfl rfl (by decide +kernel) ⟨Nat.le_of_ble_eq_true rfl, Nat.le_of_ble_eq_true rfl⟩) (yL_pre hS hV (yKeep hP0 (yO_k hS)) hK) rfl rfl hl.1 rfl (lv_room (Nat.le_of_ble_eq_true rfl)) dL_isSound_103 ⟨show cells + 1 ≤ 3600 by omega, show slots + 6 ≤ 21600 by omega⟩) hS (fun r H1 locs1 hr9 hk9 hS1 => ?_)
      have hS := hS1
      clear hk9 hS1
      subst hr9
      refine y_top (msg_0 hJ c96) ?_
      refine lv_istore (lv' := [(5, .int (σ.2.2.1 5 i)), (4, .int (nI i)), (3, .int ((((0 + (f_has 0 σ)) + (f_has 1 σ)) + (f_has 2 σ)) + (f_has 3 σ))), (2, .int (nI σ.2.1)), (1, .int (nI σ.2.2.2.2.1)), (0, .ref h)]) hx hb dL_isSound_106 hl (by decide) rfl (fun ls hl => ?_)
      refine lv_aload_n hx hb dL_isSound_108 rfl (lv_at hl 5 rfl) ?_
      refine lv_iload hx hb dL_isSound_109 (lv_at hl 1 rfl) ?_
      refine lv_iconst (v := 1) hx hb dL_isSound_111 (by decide) ?_
      refine y_lro (vx_runSW (As := [.ref h, .int (nI i), .int 1]) (rest := []) ⟨hx, hb, hml, hown, hts⟩ (c_msg_1 l hl9 G k h a c σ H1.size (nI i) hJ.1) (vx_cwSW 3 hts gL_isSound_L_message rfl rfl rfl (by decide +kernel) ⟨Nat.le_of_ble_eq_true rfl, Nat.le_of_ble_eq_true rfl⟩) (yL_pre hS hV (yKeep hP0 (yO_k hS)) hK) rfl rfl hl.1 rfl (lv_room (Nat.le_of_ble_eq_true rfl)) dL_isSound_112 ⟨show cells + 1 + 1 ≤ 3600 by omega, show slots + 6 + 6 ≤ 21600 by omega⟩) hS (fun r H1 locs1 hr9 hk9 hS1 => ?_)
      have hS := hS1
      clear hk9 hS1
      subst hr9
      refine y_top (msg_1 hJ c96) ?_
      refine lv_istore (lv' := [(6, .int (σ.2.2.1 2 i)), (5, .int (σ.2.2.1 5 i)), (4, .int (nI i)), (3, .int ((((0 + (f_has 0 σ)) + (f_has 1 σ)) + (f_has 2 σ)) + (f_has 3 σ))), (2, .int (nI σ.2.1)), (1, .int (nI σ.2.2.2.2.1)), (0, .ref h)]) hx hb dL_isSound_115 hl (by decide) rfl (fun ls hl => ?_)
      refine lv_aload_n hx hb dL_isSound_117 rfl (lv_at hl 6 rfl) ?_
      refine lv_iload hx hb dL_isSound_118 (lv_at hl 2 rfl) ?_
      refine lv_iconst (v := 2) hx hb dL_isSound_120 (by decide) ?_
      refine y_lro (vx_runSW (As := [.ref h, .int (nI i), .int 2]) (rest := []) ⟨hx, hb, hml, hown, hts⟩ (c_msg_2 l hl9 G k h a c σ H1.size (nI i) hJ.1) (vx_cwSW 3 hts gL_isSound_L_message rfl rfl rfl (by decide +kernel) ⟨Nat.le_of_ble_eq_true rfl, Nat.le_of_ble_eq_true rfl⟩) (yL_pre hS hV (yKeep hP0 (yO_k hS)) hK) rfl rfl hl.1 rfl (lv_room (Nat.le_of_ble_eq_true rfl)) dL_isSound_121 ⟨show cells + 1 + 1 + 1 ≤ 3600 by omega, show slots + 6 + 6 + 6 ≤ 21600 by omega⟩) hS (fun r H1 locs1 hr9 hk9 hS1 => ?_)
      have hS := hS1
      clear hk9 hS1
      subst hr9
      refine y_top (msg_2 hJ c96) ?_
      refine lv_if_lt (tgt := 250) hx hb dL_isSound_124 (by decide) (fun c9 => absurd c9 (J_t7a hJ c96)) (fun _ => ?_)
      refine lv_aload_n hx hb dL_isSound_127 rfl (lv_at hl 6 rfl) ?_
      refine lv_iload hx hb dL_isSound_128 (lv_at hl 2 rfl) ?_
      refine lv_iconst (v := 2) hx hb dL_isSound_130 (by decide) ?_
      refine y_lro (vx_runSW (As := [.ref h, .int (nI i), .int 2]) (rest := []) ⟨hx, hb, hml, hown, hts⟩ (c_msg_2 l hl9 G k h a c σ H1.size (nI i) hJ.1) (vx_cwSW 3 hts gL_isSound_L_message rfl rfl rfl (by decide +kernel) ⟨Nat.le_of_ble_eq_true rfl, Nat.le_of_ble_eq_true rfl⟩) (yL_pre hS hV (yKeep hP0 (yO_k hS)) hK) rfl rfl hl.1 rfl (lv_room (Nat.le_of_ble_eq_true rfl)) dL_isSound_131 ⟨show cells + 1 + 1 + 1 + 1 ≤ 3600 by omega, show slots + 6 + 6 + 6 + 6 ≤ 21600 by omega⟩) hS (fun r H1 locs1 hr9 hk9 hS1 => ?_)
      have hS := hS1
      clear hk9 hS1
      subst hr9
      refine y_top (msg_2 hJ c96) ?_
      refine lv_iconst (v := 3) hx hb dL_isSound_134 (by decide) ?_
      refine lv_icmp_gt (tgt := 250) hx hb dL_isSound_135 (by decide) (fun c9 => absurd c9 (J_t7b hJ c96)) (fun _ => ?_)
      refine y_join (pc1 := 169) (ls1 := ls) (st1 := []) (fun (H : Heap) (locs : List Loc) (cells slots : Nat) => yO s H locs ∧ cells + (4 + (9 * r1 + 2800)) ≤ 3600 ∧ slots + (24 + (54 * r1 + 16800)) ≤ 21600) (fun H locs cells slots hP9 => ?_) (fun K169 => ?_)
      · obtain ⟨hS, hb1, hb2⟩ := hP9
        refine y_join (pc1 := 199) (ls1 := ls) (st1 := []) (fun (H : Heap) (locs : List Loc) (cells slots : Nat) => yO s H locs ∧ cells + (2 + (9 * r1 + 2800)) ≤ 3600 ∧ slots + (12 + (54 * r1 + 16800)) ≤ 21600) (fun H locs cells slots hP9 => ?_) (fun K199 => ?_)
        · obtain ⟨hS, hb1, hb2⟩ := hP9
          refine y_join (pc1 := 229) (ls1 := ls) (st1 := []) (fun (H : Heap) (locs : List Loc) (cells slots : Nat) => yO s H locs ∧ cells + (9 * r1 + 2800) ≤ 3600 ∧ slots + (54 * r1 + 16800) ≤ 21600) (fun H locs cells slots hP9 => ?_) (fun K229 => ?_)
          · obtain ⟨hS, hb1, hb2⟩ := hP9
            refine y_join (pc1 := 252) (ls1 := ls) (st1 := []) (fun (H : Heap) (locs : List Loc) (cells slots : Nat) => yO s H locs ∧ cells + (9 * r1 + 2800) ≤ 3600 ∧ slots + (54 * r1 + 16800) ≤ 21600) (fun H locs cells slots hP9 => ?_) (fun K252 => ?_)
            · obtain ⟨hS, hb1, hb2⟩ := hP9
              refine lv_iinc (v := (nI (i + 1))) (lv' := [(4, .int (nI (i + 1))), (6, .int (σ.2.2.1 2 i)), (5, .int (σ.2.2.1 5 i)), (3, .int ((((0 + (f_has 0 σ)) + (f_has 1 σ)) + (f_has 2 σ)) + (f_has 3 σ))), (2, .int (nI σ.2.1)), (1, .int (nI σ.2.2.2.2.1)), (0, .ref h)]) hx hb dL_isSound_252 hl (k := 2) rfl (nI_1 i) (by decide) rfl (fun ls hl => ?_)
              refine lv_goto (tgt := 93) hx hb dL_isSound_255 (by decide) ?_
              exact ih93 r1 (i + 1) _ _ _ _ _ (by omega) ⟨(by omega), hS, (by (try dsimp only); omega), (by (try dsimp only); omega), lv_sub hl [0, 3, 4, 5, 6] rfl⟩
            refine lv_iload hx hb dL_isSound_229 (lv_at hl 0 rfl) ?_
            refine lv_bipush (v := 112) hx hb dL_isSound_231 (by decide) ?_
            refine lv_icmp_eq (tgt := 252) hx hb dL_isSound_233 (by decide) (fun c233 => ?_) (fun c233 => ?_)
            · skip
              exact K252 _ _ _ _ ⟨hS, by omega, by omega⟩
            · skip
              refine lv_iload hx hb dL_isSound_236 (lv_at hl 0 rfl) ?_
              refine lv_bipush (v := 110) hx hb dL_isSound_238 (by decide) ?_
              refine lv_icmp_eq (tgt := 252) hx hb dL_isSound_240 (by decide) (fun c240 => ?_) (fun c240 => ?_)
              · skip
                exact K252 _ _ _ _ ⟨hS, by omega, by omega⟩
              · skip
                refine lv_iload hx hb dL_isSound_243 (lv_at hl 0 rfl) ?_
                refine lv_bipush (v := 114) hx hb dL_isSound_245 (by decide) ?_
                refine lv_icmp_eq (tgt := 252) hx hb dL_isSound_247 (by decide) (fun _ => ?_) (fun c9 => absurd ((hm.2.1.resolve_left c233).resolve_left c240) c9)
                exact K252 _ _ _ _ ⟨hS, by omega, by omega⟩
          refine lv_iload hx hb dL_isSound_199 (lv_at hl 1 rfl) ?_
          refine lv_bipush (v := 116) hx hb dL_isSound_201 (by decide) ?_
          refine lv_icmp_ne (tgt := 210) hx hb dL_isSound_203 (by decide) (fun c203 => ?_) (fun c203 => ?_)
          · skip
            refine lv_iconst (v := 0) hx hb dL_isSound_210 (by decide) ?_
            refine lv_aload_n hx hb dL_isSound_211 rfl (lv_at hl 6 rfl) ?_
            refine lv_iload hx hb dL_isSound_212 (lv_at hl 2 rfl) ?_
            refine lv_iconst (v := 4) hx hb dL_isSound_214 (by decide) ?_
            refine y_lro (vx_runSW (As := [.ref h, .int (nI i), .int 4]) (rest := [.int 0]) ⟨hx, hb, hml, hown, hts⟩ (c_msg_4 l hl9 G k h a c σ H.size (nI i) hJ.1) (vx_cwSW 3 hts gL_isSound_L_message rfl rfl rfl (by decide +kernel) ⟨Nat.le_of_ble_eq_true rfl, Nat.le_of_ble_eq_true rfl⟩) (yL_pre hS hV (yKeep hP0 (yO_k hS)) hK) rfl rfl hl.1 rfl (lv_room (Nat.le_of_ble_eq_true rfl)) dL_isSound_215 ⟨show cells + 2 ≤ 3600 by omega, show slots + 12 ≤ 21600 by omega⟩) hS (fun r H1 locs1 hr9 hk9 hS1 => ?_)
            have hS := hS1
            clear hk9 hS1
            subst hr9
            refine y_top ((msg_4 hJ c96).trans (if_neg c203)) ?_
            refine lv_if_lt (tgt := 225) hx hb dL_isSound_218 (by decide) (fun _ => ?_) (fun c9 => absurd c9 (by decide))
            refine lv_iconst (v := 0) hx hb dL_isSound_225 (by decide) ?_
            refine lv_icmp_ne (tgt := 250) hx hb dL_isSound_226 (by decide) (fun c9 => absurd c9 (by decide)) (fun _ => ?_)
            exact K229 _ _ _ _ ⟨hS, by omega, by omega⟩
          · skip
            refine lv_iconst (v := 1) hx hb dL_isSound_206 (by decide) ?_
            refine lv_goto (tgt := 211) hx hb dL_isSound_207 (by decide) ?_
            refine lv_aload_n hx hb dL_isSound_211 rfl (lv_at hl 6 rfl) ?_
            refine lv_iload hx hb dL_isSound_212 (lv_at hl 2 rfl) ?_
            refine lv_iconst (v := 4) hx hb dL_isSound_214 (by decide) ?_
            refine y_lro (vx_runSW (As := [.ref h, .int (nI i), .int 4]) (rest := [.int 1]) ⟨hx, hb, hml, hown, hts⟩ (c_msg_4 l hl9 G k h a c σ H.size (nI i) hJ.1) (vx_cwSW 3 hts gL_isSound_L_message rfl rfl rfl (by decide +kernel) ⟨Nat.le_of_ble_eq_true rfl, Nat.le_of_ble_eq_true rfl⟩) (yL_pre hS hV (yKeep hP0 (yO_k hS)) hK) rfl rfl hl.1 rfl (lv_room (Nat.le_of_ble_eq_true rfl)) dL_isSound_215 ⟨show cells + 2 ≤ 3600 by omega, show slots + 12 ≤ 21600 by omega⟩) hS (fun r H1 locs1 hr9 hk9 hS1 => ?_)
            have hS := hS1
            clear hk9 hS1
            subst hr9
            refine y_top ((msg_4 hJ c96).trans (if_pos c203)) ?_
            refine lv_if_lt (tgt := 225) hx hb dL_isSound_218 (by decide) (fun c9 => absurd c9 (J_8 hJ c96 c203)) (fun _ => ?_)
            refine lv_iconst (v := 1) hx hb dL_isSound_221 (by decide) ?_
            refine lv_goto (tgt := 226) hx hb dL_isSound_222 (by decide) ?_
            refine lv_icmp_ne (tgt := 250) hx hb dL_isSound_226 (by decide) (fun c9 => absurd c9 (by decide)) (fun _ => ?_)
            exact K229 _ _ _ _ ⟨hS, by omega, by omega⟩
        refine lv_iload hx hb dL_isSound_169 (lv_at hl 1 rfl) ?_
        refine lv_bipush (v := 119) hx hb dL_isSound_171 (by decide) ?_
        refine lv_icmp_ne (tgt := 180) hx hb dL_isSound_173 (by decide) (fun c173 => ?_) (fun c173 => ?_)
        · skip
          refine lv_iconst (v := 0) hx hb dL_isSound_180 (by decide) ?_
          refine lv_aload_n hx hb dL_isSound_181 rfl (lv_at hl 6 rfl) ?_
          refine lv_iload hx hb dL_isSound_182 (lv_at hl 2 rfl) ?_
          refine lv_iconst (v := 3) hx hb dL_isSound_184 (by decide) ?_
          refine y_lro (vx_runSW (As := [.ref h, .int (nI i), .int 3]) (rest := [.int 0]) ⟨hx, hb, hml, hown, hts⟩ (c_msg_3 l hl9 G k h a c σ H.size (nI i) hJ.1) (vx_cwSW 3 hts gL_isSound_L_message rfl rfl rfl (by decide +kernel) ⟨Nat.le_of_ble_eq_true rfl, Nat.le_of_ble_eq_true rfl⟩) (yL_pre hS hV (yKeep hP0 (yO_k hS)) hK) rfl rfl hl.1 rfl (lv_room (Nat.le_of_ble_eq_true rfl)) dL_isSound_185 ⟨show cells + 2 ≤ 3600 by omega, show slots + 12 ≤ 21600 by omega⟩) hS (fun r H1 locs1 hr9 hk9 hS1 => ?_)
          have hS := hS1
          clear hk9 hS1
          subst hr9
          refine y_top ((msg_3 hJ c96).trans (if_neg c173)) ?_
          refine lv_if_lt (tgt := 195) hx hb dL_isSound_188 (by decide) (fun _ => ?_) (fun c9 => absurd c9 (by decide))
          refine lv_iconst (v := 0) hx hb dL_isSound_195 (by decide) ?_
          refine lv_icmp_ne (tgt := 250) hx hb dL_isSound_196 (by decide) (fun c9 => absurd c9 (by decide)) (fun _ => ?_)
          exact K199 _ _ _ _ ⟨hS, by omega, by omega⟩
        · skip
          refine lv_iconst (v := 1) hx hb dL_isSound_176 (by decide) ?_
          refine lv_goto (tgt := 181) hx hb dL_isSound_177 (by decide) ?_
          refine lv_aload_n hx hb dL_isSound_181 rfl (lv_at hl 6 rfl) ?_
          refine lv_iload hx hb dL_isSound_182 (lv_at hl 2 rfl) ?_
          refine lv_iconst (v := 3) hx hb dL_isSound_184 (by decide) ?_
          refine y_lro (vx_runSW (As := [.ref h, .int (nI i), .int 3]) (rest := [.int 1]) ⟨hx, hb, hml, hown, hts⟩ (c_msg_3 l hl9 G k h a c σ H.size (nI i) hJ.1) (vx_cwSW 3 hts gL_isSound_L_message rfl rfl rfl (by decide +kernel) ⟨Nat.le_of_ble_eq_true rfl, Nat.le_of_ble_eq_true rfl⟩) (yL_pre hS hV (yKeep hP0 (yO_k hS)) hK) rfl rfl hl.1 rfl (lv_room (Nat.le_of_ble_eq_true rfl)) dL_isSound_185 ⟨show cells + 2 ≤ 3600 by omega, show slots + 12 ≤ 21600 by omega⟩) hS (fun r H1 locs1 hr9 hk9 hS1 => ?_)
          have hS := hS1
          clear hk9 hS1
          subst hr9
          refine y_top ((msg_3 hJ c96).trans (if_pos c173)) ?_
          refine lv_if_lt (tgt := 195) hx hb dL_isSound_188 (by decide) (fun c9 => absurd c9 (Int32.not_lt.mpr (hq.2.1 c173))) (fun _ => ?_)
          refine lv_iconst (v := 1) hx hb dL_isSound_191 (by decide) ?_
          refine lv_goto (tgt := 196) hx hb dL_isSound_192 (by decide) ?_
          refine lv_icmp_ne (tgt := 250) hx hb dL_isSound_196 (by decide) (fun c9 => absurd c9 (by decide)) (fun _ => ?_)
          exact K199 _ _ _ _ ⟨hS, by omega, by omega⟩
      refine lv_iload hx hb dL_isSound_138 (lv_at hl 1 rfl) ?_
      refine lv_bipush (v := 120) hx hb dL_isSound_140 (by decide) ?_
      refine lv_icmp_ne (tgt := 149) hx hb dL_isSound_142 (by decide) (fun c142 => ?_) (fun c142 => ?_)
      · skip
        refine lv_iconst (v := 0) hx hb dL_isSound_149 (by decide) ?_
        refine lv_aload_n hx hb dL_isSound_150 rfl (lv_at hl 6 rfl) ?_
        refine lv_iload hx hb dL_isSound_151 (lv_at hl 2 rfl) ?_
        refine lv_iconst (v := 2) hx hb dL_isSound_153 (by decide) ?_
        refine y_lro (vx_runSW (As := [.ref h, .int (nI i), .int 2]) (rest := [.int 0]) ⟨hx, hb, hml, hown, hts⟩ (c_msg_2 l hl9 G k h a c σ H1.size (nI i) hJ.1) (vx_cwSW 3 hts gL_isSound_L_message rfl rfl rfl (by decide +kernel) ⟨Nat.le_of_ble_eq_true rfl, Nat.le_of_ble_eq_true rfl⟩) (yL_pre hS hV (yKeep hP0 (yO_k hS)) hK) rfl rfl hl.1 rfl (lv_room (Nat.le_of_ble_eq_true rfl)) dL_isSound_154 ⟨show cells + 1 + 1 + 1 + 1 + 1 ≤ 3600 by omega, show slots + 6 + 6 + 6 + 6 + 6 ≤ 21600 by omega⟩) hS (fun r H1 locs1 hr9 hk9 hS1 => ?_)
        have hS := hS1
        clear hk9 hS1
        subst hr9
        refine y_top (msg_2 hJ c96) ?_
        refine lv_iconst (v := 3) hx hb dL_isSound_157 (by decide) ?_
        refine lv_icmp_ne (tgt := 165) hx hb dL_isSound_158 (by decide) (fun _ => ?_) (fun c9 => absurd c9 (J_t7c hJ c96 c142))
        refine lv_iconst (v := 0) hx hb dL_isSound_165 (by decide) ?_
        refine lv_icmp_ne (tgt := 250) hx hb dL_isSound_166 (by decide) (fun c9 => absurd c9 (by decide)) (fun _ => ?_)
        exact K169 _ _ _ _ ⟨hS, by omega, by omega⟩
      · skip
        refine lv_iconst (v := 1) hx hb dL_isSound_145 (by decide) ?_
        refine lv_goto (tgt := 150) hx hb dL_isSound_146 (by decide) ?_
        refine lv_aload_n hx hb dL_isSound_150 rfl (lv_at hl 6 rfl) ?_
        refine lv_iload hx hb dL_isSound_151 (lv_at hl 2 rfl) ?_
        refine lv_iconst (v := 2) hx hb dL_isSound_153 (by decide) ?_
        refine y_lro (vx_runSW (As := [.ref h, .int (nI i), .int 2]) (rest := [.int 1]) ⟨hx, hb, hml, hown, hts⟩ (c_msg_2 l hl9 G k h a c σ H1.size (nI i) hJ.1) (vx_cwSW 3 hts gL_isSound_L_message rfl rfl rfl (by decide +kernel) ⟨Nat.le_of_ble_eq_true rfl, Nat.le_of_ble_eq_true rfl⟩) (yL_pre hS hV (yKeep hP0 (yO_k hS)) hK) rfl rfl hl.1 rfl (lv_room (Nat.le_of_ble_eq_true rfl)) dL_isSound_154 ⟨show cells + 1 + 1 + 1 + 1 + 1 ≤ 3600 by omega, show slots + 6 + 6 + 6 + 6 + 6 ≤ 21600 by omega⟩) hS (fun r H1 locs1 hr9 hk9 hS1 => ?_)
        have hS := hS1
        clear hk9 hS1
        subst hr9
        refine y_top (msg_2 hJ c96) ?_
        refine lv_iconst (v := 3) hx hb dL_isSound_157 (by decide) ?_
        refine lv_icmp_ne (tgt := 165) hx hb dL_isSound_158 (by decide) (fun c9 => absurd (hq.1 c142) c9) (fun _ => ?_)
        refine lv_iconst (v := 1) hx hb dL_isSound_161 (by decide) ?_
        refine lv_goto (tgt := 166) hx hb dL_isSound_162 (by decide) ?_
        refine lv_icmp_ne (tgt := 250) hx hb dL_isSound_166 (by decide) (fun c9 => absurd c9 (by decide)) (fun _ => ?_)
        exact K169 _ _ _ _ ⟨hS, by omega, by omega⟩
  refine lv_iload_n hx hb dL_isSound_16 rfl (lv_at hl 1 rfl) ?_
  refine lv_if_le (tgt := 31) hx hb dL_isSound_17 (by decide) (fun c17 => ?_) (fun c17 => ?_)
  · skip
    exact K31 _ _ _ _ ⟨hS, by omega, by omega⟩
  · skip
    have c17 : 0 < σ.2.2.2.2.1 := Nat.pos_of_ne_zero (fun h9 => c17 (by rw [h9]; decide))
    refine lv_aload_n hx hb dL_isSound_20 rfl (lv_at hl 2 rfl) ?_
    refine lv_iload_n hx hb dL_isSound_21 rfl (lv_at hl 1 rfl) ?_
    refine lv_iconst (v := 1) hx hb dL_isSound_22 (by decide) ?_
    refine lv_isub hx hb dL_isSound_23 ?_
    refine y_top (nI_pr c17) ?_
    refine lv_iconst (v := 0) hx hb dL_isSound_24 (by decide) ?_
    refine y_lro (vx_runSW (As := [.ref h, .int (nI (σ.2.2.2.2.1 - 1)), .int 0]) (rest := []) ⟨hx, hb, hml, hown, hts⟩ (c_msg_0 l hl9 G k h a c σ H1.size (nI (σ.2.2.2.2.1 - 1)) hJ.1) (vx_cwSW 3 hts gL_isSound_L_message rfl rfl rfl (by decide +kernel) ⟨Nat.le_of_ble_eq_true rfl, Nat.le_of_ble_eq_true rfl⟩) (yL_pre hS hV (yKeep hP0 (yO_k hS)) hK) rfl rfl hl.1 rfl (lv_room (Nat.le_of_ble_eq_true rfl)) dL_isSound_25 ⟨show 0 + 5 + 9 + 1 ≤ 3600 by omega, show 0 + 30 + 54 + 6 ≤ 21600 by omega⟩) hS (fun r H1 locs1 hr9 hk9 hS1 => ?_)
    have hS := hS1
    clear hk9 hS1
    subst hr9
    refine y_top (msg_0 hJ (by omega)) ?_
    refine lv_if_lt (tgt := 43) hx hb dL_isSound_28 (by decide) (fun c9 => absurd c9 (oks_pos (J_m hJ (i := σ.2.2.2.2.1 - 1) (by omega)).1)) (fun _ => ?_)
    exact K31 _ _ _ _ ⟨hS, by omega, by omega⟩
