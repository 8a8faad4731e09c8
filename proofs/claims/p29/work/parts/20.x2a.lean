set_option maxHeartbeats 4000000 in
set_option maxRecDepth 100000 in
theorem c_X2_isWithin (l : Launch) (v lo hi : Int32)  : Met l yX2_isWithin wsX2_isWithin ({ frames := 0, cells := 0, slots := 0, locals := 0 }) (va_Pc [.int v, .int lo, .int hi] (fun _ => True)) (vp_Si (fun r => r = b2 (rg lo hi v))) 0 0 (fun _ => False) := by
  refine Met.ofW (cc := cX2_isWithin) (maxL := 3) (ret := (some .boolean)) (by decide) rfl ?_
  intro p e s m args below meth c_ s₁ B hml hv
  obtain ⟨rfl, -⟩ := hv
  have hx := B.exec
  have hb := B.bytes
  have hr := B.returns
  have hts := atoms_spec (ws := wsX2_isWithin) B.pre
  have hown : s.vm.findClass RX2 = some m.cls := findClass_of_methodNamed B.named
  have hlocks := B.notSynchronized
  have hsz0 : (8 : Nat) < 2 ^ 31 := by decide
  have hsz1 : (80 : Nat) < 2 ^ 31 := by decide
  have hl := lv_entry [.int v, .int lo, .int hi] (n := 3) (Nat.le_of_ble_eq_true rfl)
  rw [lg_entry_eq]
  generalize (lg_sl [.int v, .int lo, .int hi] ++ List.replicate (3 - (lg_sl [.int v, .int lo, .int hi]).length) Slot.unset).toArray = ls at hl ⊢
  have hl : lv_has ls 3 [(0, .int v), (1, .int lo), (2, .int hi)] := hl
  refine lv_iload_n hx hb dX2_isWithin_0 rfl (lv_at hl 0 rfl) ?_
  refine lv_iload_n hx hb dX2_isWithin_1 rfl (lv_at hl 1 rfl) ?_
  refine lv_icmp_lt (tgt := 14) hx hb dX2_isWithin_2 (by decide) (fun c2 => ?_) (fun c2 => ?_)
  · skip
    refine lv_iconst (v := 0) hx hb dX2_isWithin_14 (by decide) ?_
    exact W.zret (v := 0) hx hb hr (by decide) (fun τ hτ _ => ⟨_, rfl, (by first | exact (b2_f (fun h9 => absurd h9.1 (Int32.not_le.mpr (by assumption)))).symm | exact (b2_f (fun h9 => absurd h9.2 (Int32.not_le.mpr (by assumption)))).symm | exact (b2_t ⟨Int32.not_lt.mp (by assumption), Int32.not_lt.mp (by assumption)⟩).symm), hτ⟩) (fun _ h9 => nomatch h9) dX2_isWithin_15
  · skip
    refine lv_iload_n hx hb dX2_isWithin_5 rfl (lv_at hl 0 rfl) ?_
    refine lv_iload_n hx hb dX2_isWithin_6 rfl (lv_at hl 2 rfl) ?_
    refine lv_icmp_gt (tgt := 14) hx hb dX2_isWithin_7 (by decide) (fun c7 => ?_) (fun c7 => ?_)
    · skip
      refine lv_iconst (v := 0) hx hb dX2_isWithin_14 (by decide) ?_
      exact W.zret (v := 0) hx hb hr (by decide) (fun τ hτ _ => ⟨_, rfl, (by first | exact (b2_f (fun h9 => absurd h9.1 (Int32.not_le.mpr (by assumption)))).symm | exact (b2_f (fun h9 => absurd h9.2 (Int32.not_le.mpr (by assumption)))).symm | exact (b2_t ⟨Int32.not_lt.mp (by assumption), Int32.not_lt.mp (by assumption)⟩).symm), hτ⟩) (fun _ h9 => nomatch h9) dX2_isWithin_15
    · skip
      refine lv_iconst (v := 1) hx hb dX2_isWithin_10 (by decide) ?_
      refine lv_goto (tgt := 15) hx hb dX2_isWithin_11 (by decide) ?_
      exact W.zret (v := 1) hx hb hr (by decide) (fun τ hτ _ => ⟨_, rfl, (by first | exact (b2_f (fun h9 => absurd h9.1 (Int32.not_le.mpr (by assumption)))).symm | exact (b2_f (fun h9 => absurd h9.2 (Int32.not_le.mpr (by assumption)))).symm | exact (b2_t ⟨Int32.not_lt.mp (by assumption), Int32.not_lt.mp (by assumption)⟩).symm), hτ⟩) (fun _ h9 => nomatch h9) dX2_isWithin_15

set_option maxHeartbeats 4000000 in
set_option maxRecDepth 100000 in
theorem c_X2_reminderKey (l : Launch) (i : Nat) (u : Int32)  : Met l yX2_reminderKey wsX2_reminderKey ({ frames := 0, cells := 0, slots := 0, locals := 0 }) (va_Pc [.int (nI i), .int u] (fun _ => True)) (vp_Si (fun r => r = 1000 + 10 * nI i + u)) 0 0 (fun _ => False) := by
  refine Met.ofW (cc := cX2_reminderKey) (maxL := 2) (ret := (some .int)) (by decide) rfl ?_
  intro p e s m args below meth c_ s₁ B hml hv
  obtain ⟨rfl, -⟩ := hv
  have hx := B.exec
  have hb := B.bytes
  have hr := B.returns
  have hts := atoms_spec (ws := wsX2_reminderKey) B.pre
  have hown : s.vm.findClass RX2 = some m.cls := findClass_of_methodNamed B.named
  have hlocks := B.notSynchronized
  have hsz0 : (8 : Nat) < 2 ^ 31 := by decide
  have hsz1 : (80 : Nat) < 2 ^ 31 := by decide
  have hl := lv_entry [.int (nI i), .int u] (n := 2) (Nat.le_of_ble_eq_true rfl)
  rw [lg_entry_eq]
  generalize (lg_sl [.int (nI i), .int u] ++ List.replicate (2 - (lg_sl [.int (nI i), .int u]).length) Slot.unset).toArray = ls at hl ⊢
  have hl : lv_has ls 2 [(0, .int (nI i)), (1, .int u)] := hl
  refine lv_sipush (v := 1000) hx hb dX2_reminderKey_0 (by decide) ?_
  refine lv_bipush (v := 10) hx hb dX2_reminderKey_3 (by decide) ?_
  refine lv_iload_n hx hb dX2_reminderKey_5 rfl (lv_at hl 0 rfl) ?_
  refine lv_imul hx hb dX2_reminderKey_6 ?_
  refine lv_iadd hx hb dX2_reminderKey_7 ?_
  refine lv_iload_n hx hb dX2_reminderKey_8 rfl (lv_at hl 1 rfl) ?_
  refine lv_iadd hx hb dX2_reminderKey_9 ?_
  exact W.iret (v := ((1000 + (10 * (nI i))) + u)) hx hb hr (fun τ hτ _ => ⟨_, rfl, (by rfl), hτ⟩) (fun _ h9 => nomatch h9) dX2_reminderKey_10

set_option maxHeartbeats 4000000 in
set_option maxRecDepth 100000 in
theorem c_X2_requireCase (l : Launch) (hl9 : l.stackTraces = false) (G : va_G) (k : Nat → ClassId) (h : Nat) (a : Nat → Nat) (c : Nat → Nat) (C : Nat → Nat → Int32) (n0 : Nat) (M : Nat → Nat → Int32) (ds : Nat) (n1 : Nat) (d : Nat) (x : Int32) (hn : n0 ≤ 8) : vx_Met l yX2_requireCase wsX2_requireCase ({ frames := 6, cells := 1, slots := 6, locals := 90 }) (va_Pc [.ref h, .int x] (yE G (yT k) (W2 k h a c C n0 M ds n1 d))) (va_Sv (fun _ => inR x n0)) (yX (fun E => E = "java/lang/IndexOutOfBoundsException" ∧ ¬ inR x n0)) 1 6 (fun _ => False) := by
  refine vx_ofW (cc := cX2_requireCase) (maxL := 2) (ret := none) (by decide) rfl ?_
  intro p e s m args below meth c_ s₁ B hml ht hv
  obtain ⟨rfl, hP, hK, hE⟩ := hv
  have hE : yEV0 s s.heap := hE
  have hx := B.exec
  have hb := B.bytes
  have hr := B.returns
  have hts := atoms_spec (ws := wsX2_requireCase) B.pre
  have hown : s.vm.findClass RX2 = some m.cls := findClass_of_methodNamed B.named
  have hlocks := B.notSynchronized
  have hsz0 : (8 : Nat) < 2 ^ 31 := by decide
  have hsz1 : (80 : Nat) < 2 ^ 31 := by decide
  have hinX2 : ∀ w ∈ u_ws RX2 TX2 3, w ∈ wsX2_requireCase := by decide +kernel
  have fl10 := hts (.fieldLink RX2 10 "DunningDesk" "cases" "LDunningDesk$CaseBook;") (by decide +kernel)
  have hl := lv_entry [.ref h, .int x] (n := 2) (Nat.le_of_ble_eq_true rfl)
  rw [lg_entry_eq]
  generalize (lg_sl [.ref h, .int x] ++ List.replicate (2 - (lg_sl [.ref h, .int x]).length) Slot.unset).toArray = ls at hl ⊢
  have hl : lv_has ls 2 [(0, .ref h), (1, .int x)] := hl
  refine lv_aload_n hx hb dX2_requireCase_0 rfl (lv_at hl 0 rfl) ?_
  refine va_get (D := G) (ci := 4) (v := .ref (a 0)) (C := RX2) (T := TX2) (N := 3) hx hb hts hinX2 hown hK hP 0 rfl rfl 0 (by decide) fl10 (fun _ h9 => h9) rfl dX2_requireCase_1 ?_
  refine lv_iload_n hx hb dX2_requireCase_4 rfl (lv_at hl 1 rfl) ?_
  refine y_roVN (As := [.int x]) (rest := []) ⟨hx, hb, hml, hown, hts⟩ (c_X0_contains l G k a C n0 x (by omega)) ⟨va_cnB (host := "DunningDesk") 1 hts gX2_requireCase_X0_contains_n121 rfl rfl rfl (hE.1 (.methodLinkNest RX2 121 yX0_contains "DunningDesk") (by decide +kernel)) (hts (.initialized RX0) (by decide +kernel)) (by decide +kernel) ⟨Nat.le_of_ble_eq_true rfl, Nat.le_of_ble_eq_true rfl⟩, hts (.instanceMethod yX0_contains) (by decide +kernel), hts (.selects RX0 yX0_contains yX0_contains) (by decide +kernel)⟩ hK (P20 hP) (va_recv hK (P20 hP) (ci := 2) (q0 := 0) rfl rfl) rfl hl.1 rfl (Nat.le_of_ble_eq_true rfl) dX2_requireCase_5 ⟨Nat.le_of_ble_eq_true rfl, Nat.le_of_ble_eq_true rfl⟩ (fun r hr9 => ?_)
  subst hr9
  refine lv_if_ne (tgt := 21) hx hb dX2_requireCase_8 (by decide) (fun c8 => ?_) (fun c8 => ?_)
  · replace c8 : inR x n0 := b2_of1 c8
    refine W.widen (k := 1) (n := 6) (by decide) (by decide) ?_
    exact vx_ret (W.vret hx hb hr (fun τ hτ hW => ⟨rfl, (by exact c8), hτ⟩) (fun _ h9 => nomatch h9) dX2_requireCase_21)
  · replace c8 : ¬ (inR x n0) := b2_of0 c8
    exact y_thr (rest := []) (ik := 215) (is := 217) (ic := 219) (cls := "java/lang/IndexOutOfBoundsException") (text := "there is no such case") hx hb hl9 hts hE hown (by decide) (by decide +kernel) (by decide +kernel) (by decide +kernel) (by decide +kernel) yat_IOB yot_IOB (hl.1.trans hml.symm) dX2_requireCase_11 dX2_requireCase_14 dX2_requireCase_15 dX2_requireCase_17 dX2_requireCase_20 ht ⟨Nat.le_of_ble_eq_true rfl, Nat.le_of_ble_eq_true rfl, Nat.le_of_ble_eq_true rfl, Nat.le_of_ble_eq_true rfl⟩ hlocks (by exact ⟨rfl, c8⟩) ⟨Nat.le_of_ble_eq_true rfl, Nat.le_of_ble_eq_true rfl⟩

set_option maxHeartbeats 4000000 in
set_option maxRecDepth 100000 in
theorem c_X2_requireMessage (l : Launch) (hl9 : l.stackTraces = false) (G : va_G) (k : Nat → ClassId) (h : Nat) (a : Nat → Nat) (c : Nat → Nat) (C : Nat → Nat → Int32) (n0 : Nat) (M : Nat → Nat → Int32) (ds : Nat) (n1 : Nat) (d : Nat) (x : Int32) (hn1 : n1 ≤ 80) : vx_Met l yX2_requireMessage wsX2_requireMessage ({ frames := 6, cells := 1, slots := 6, locals := 90 }) (va_Pc [.ref h, .int x] (yE G (yT k) (W2 k h a c C n0 M ds n1 d))) (va_Sv (fun _ => inR x n1)) (yX (fun E => E = "java/lang/IndexOutOfBoundsException" ∧ ¬ inR x n1)) 1 6 (fun _ => False) := by
  refine vx_ofW (cc := cX2_requireMessage) (maxL := 2) (ret := none) (by decide) rfl ?_
  intro p e s m args below meth c_ s₁ B hml ht hv
  obtain ⟨rfl, hP, hK, hE⟩ := hv
  have hE : yEV0 s s.heap := hE
  have hx := B.exec
  have hb := B.bytes
  have hr := B.returns
  have hts := atoms_spec (ws := wsX2_requireMessage) B.pre
  have hown : s.vm.findClass RX2 = some m.cls := findClass_of_methodNamed B.named
  have hlocks := B.notSynchronized
  have hsz0 : (8 : Nat) < 2 ^ 31 := by decide
  have hsz1 : (80 : Nat) < 2 ^ 31 := by decide
  have hinX2 : ∀ w ∈ u_ws RX2 TX2 3, w ∈ wsX2_requireMessage := by decide +kernel
  have fl19 := hts (.fieldLink RX2 19 "DunningDesk" "messages" "LDunningDesk$MessageBook;") (by decide +kernel)
  have hl := lv_entry [.ref h, .int x] (n := 2) (Nat.le_of_ble_eq_true rfl)
  rw [lg_entry_eq]
  generalize (lg_sl [.ref h, .int x] ++ List.replicate (2 - (lg_sl [.ref h, .int x]).length) Slot.unset).toArray = ls at hl ⊢
  have hl : lv_has ls 2 [(0, .ref h), (1, .int x)] := hl
  refine lv_aload_n hx hb dX2_requireMessage_0 rfl (lv_at hl 0 rfl) ?_
  refine va_get (D := G) (ci := 4) (v := .ref (c 0)) (C := RX2) (T := TX2) (N := 3) hx hb hts hinX2 hown hK hP 0 rfl rfl 1 (by decide) fl19 (fun _ h9 => h9) rfl dX2_requireMessage_1 ?_
  refine lv_iload_n hx hb dX2_requireMessage_4 rfl (lv_at hl 1 rfl) ?_
  refine y_roVN (As := [.int x]) (rest := []) ⟨hx, hb, hml, hown, hts⟩ (c_X1_contains l G k c M ds n1 x (by omega)) ⟨va_cnB (host := "DunningDesk") 1 hts gX2_requireMessage_X1_contains_n225 rfl rfl rfl (hE.1 (.methodLinkNest RX2 225 yX1_contains "DunningDesk") (by decide +kernel)) (hts (.initialized RX1) (by decide +kernel)) (by decide +kernel) ⟨Nat.le_of_ble_eq_true rfl, Nat.le_of_ble_eq_true rfl⟩, hts (.instanceMethod yX1_contains) (by decide +kernel), hts (.selects RX1 yX1_contains yX1_contains) (by decide +kernel)⟩ hK (P21 hP) (va_recv hK (P21 hP) (ci := 3) (q0 := 0) rfl rfl) rfl hl.1 rfl (Nat.le_of_ble_eq_true rfl) dX2_requireMessage_5 ⟨Nat.le_of_ble_eq_true rfl, Nat.le_of_ble_eq_true rfl⟩ (fun r hr9 => ?_)
  subst hr9
  refine lv_if_ne (tgt := 21) hx hb dX2_requireMessage_8 (by decide) (fun c8 => ?_) (fun c8 => ?_)
  · replace c8 : inR x n1 := b2_of1 c8
    refine W.widen (k := 1) (n := 6) (by decide) (by decide) ?_
    exact vx_ret (W.vret hx hb hr (fun τ hτ hW => ⟨rfl, (by exact c8), hτ⟩) (fun _ h9 => nomatch h9) dX2_requireMessage_21)
  · replace c8 : ¬ (inR x n1) := b2_of0 c8
    exact y_thr (rest := []) (ik := 215) (is := 226) (ic := 219) (cls := "java/lang/IndexOutOfBoundsException") (text := "there is no such message") hx hb hl9 hts hE hown (by decide) (by decide +kernel) (by decide +kernel) (by decide +kernel) (by decide +kernel) yat_IOB yot_IOB (hl.1.trans hml.symm) dX2_requireMessage_11 dX2_requireMessage_14 dX2_requireMessage_15 dX2_requireMessage_17 dX2_requireMessage_20 ht ⟨Nat.le_of_ble_eq_true rfl, Nat.le_of_ble_eq_true rfl, Nat.le_of_ble_eq_true rfl, Nat.le_of_ble_eq_true rfl⟩ hlocks (by exact ⟨rfl, c8⟩) ⟨Nat.le_of_ble_eq_true rfl, Nat.le_of_ble_eq_true rfl⟩

set_option maxHeartbeats 4000000 in
set_option maxRecDepth 100000 in
theorem c_X2_requireOpen (l : Launch) (hl9 : l.stackTraces = false) (G : va_G) (k : Nat → ClassId) (h : Nat) (a : Nat → Nat) (c : Nat → Nat) (C : Nat → Nat → Int32) (n0 : Nat) (M : Nat → Nat → Int32) (ds : Nat) (n1 : Nat) (d : Nat) (i : Nat) (hi : i < 8) : vx_Met l yX2_requireOpen wsX2_requireOpen ({ frames := 6, cells := 1, slots := 6, locals := 90 }) (va_Pc [.ref h, .int (nI i)] (yE G (yT k) (W2 k h a c C n0 M ds n1 d))) (va_Sv (fun _ => 0 < C 0 i)) (yX (fun E => E = "java/lang/IllegalStateException" ∧ ¬ 0 < C 0 i)) 1 6 (fun _ => False) := by
  refine vx_ofW (cc := cX2_requireOpen) (maxL := 2) (ret := none) (by decide) rfl ?_
  intro p e s m args below meth c_ s₁ B hml ht hv
  obtain ⟨rfl, hP, hK, hE⟩ := hv
  have hE : yEV0 s s.heap := hE
  have hx := B.exec
  have hb := B.bytes
  have hr := B.returns
  have hts := atoms_spec (ws := wsX2_requireOpen) B.pre
  have hown : s.vm.findClass RX2 = some m.cls := findClass_of_methodNamed B.named
  have hlocks := B.notSynchronized
  have hsz0 : (8 : Nat) < 2 ^ 31 := by decide
  have hsz1 : (80 : Nat) < 2 ^ 31 := by decide
  have hinX2 : ∀ w ∈ u_ws RX2 TX2 3, w ∈ wsX2_requireOpen := by decide +kernel
  have fl10 := hts (.fieldLink RX2 10 "DunningDesk" "cases" "LDunningDesk$CaseBook;") (by decide +kernel)
  have hl := lv_entry [.ref h, .int (nI i)] (n := 2) (Nat.le_of_ble_eq_true rfl)
  rw [lg_entry_eq]
  generalize (lg_sl [.ref h, .int (nI i)] ++ List.replicate (2 - (lg_sl [.ref h, .int (nI i)]).length) Slot.unset).toArray = ls at hl ⊢
  have hl : lv_has ls 2 [(0, .ref h), (1, .int (nI i))] := hl
  refine lv_aload_n hx hb dX2_requireOpen_0 rfl (lv_at hl 0 rfl) ?_
  refine va_get (D := G) (ci := 4) (v := .ref (a 0)) (C := RX2) (T := TX2) (N := 3) hx hb hts hinX2 hown hK hP 0 rfl rfl 0 (by decide) fl10 (fun _ h9 => h9) rfl dX2_requireOpen_1 ?_
  refine lv_iload_n hx hb dX2_requireOpen_4 rfl (lv_at hl 1 rfl) ?_
  refine y_roVN (As := [.int (nI i)]) (rest := []) ⟨hx, hb, hml, hown, hts⟩ (c_X0_isOpen l G k a C n0 i (by omega)) ⟨va_cnB (host := "DunningDesk") 1 hts gX2_requireOpen_X0_isOpen_n220 rfl rfl rfl (hE.1 (.methodLinkNest RX2 220 yX0_isOpen "DunningDesk") (by decide +kernel)) (hts (.initialized RX0) (by decide +kernel)) (by decide +kernel) ⟨Nat.le_of_ble_eq_true rfl, Nat.le_of_ble_eq_true rfl⟩, hts (.instanceMethod yX0_isOpen) (by decide +kernel), hts (.selects RX0 yX0_isOpen yX0_isOpen) (by decide +kernel)⟩ hK (P20 hP) (va_recv hK (P20 hP) (ci := 2) (q0 := 0) rfl rfl) rfl hl.1 rfl (Nat.le_of_ble_eq_true rfl) dX2_requireOpen_5 ⟨Nat.le_of_ble_eq_true rfl, Nat.le_of_ble_eq_true rfl⟩ (fun r hr9 => ?_)
  subst hr9
  refine lv_if_ne (tgt := 21) hx hb dX2_requireOpen_8 (by decide) (fun c8 => ?_) (fun c8 => ?_)
  · replace c8 : 0 < C 0 i := b2_of1 c8
    refine W.widen (k := 1) (n := 6) (by decide) (by decide) ?_
    exact vx_ret (W.vret hx hb hr (fun τ hτ hW => ⟨rfl, (by exact c8), hτ⟩) (fun _ h9 => nomatch h9) dX2_requireOpen_21)
  · replace c8 : ¬ (0 < C 0 i) := b2_of0 c8
    exact y_thr (rest := []) (ik := 42) (is := 223) (ic := 46) (cls := "java/lang/IllegalStateException") (text := "the case is not open") hx hb hl9 hts hE hown (by decide) (by decide +kernel) (by decide +kernel) (by decide +kernel) (by decide +kernel) yat_ISE yot_ISE (hl.1.trans hml.symm) dX2_requireOpen_11 dX2_requireOpen_14 dX2_requireOpen_15 dX2_requireOpen_17 dX2_requireOpen_20 ht ⟨Nat.le_of_ble_eq_true rfl, Nat.le_of_ble_eq_true rfl, Nat.le_of_ble_eq_true rfl, Nat.le_of_ble_eq_true rfl⟩ hlocks (by exact ⟨rfl, c8⟩) ⟨Nat.le_of_ble_eq_true rfl, Nat.le_of_ble_eq_true rfl⟩

set_option maxHeartbeats 4000000 in
set_option maxRecDepth 100000 in
theorem c_X2_requireState (l : Launch) (hl9 : l.stackTraces = false) (G : va_G) (k : Nat → ClassId) (h : Nat) (a : Nat → Nat) (c : Nat → Nat) (C : Nat → Nat → Int32) (n0 : Nat) (M : Nat → Nat → Int32) (ds : Nat) (n1 : Nat) (d : Nat) (i : Nat) (w : Int32) (hi : i < 80) : vx_Met l yX2_requireState wsX2_requireState ({ frames := 6, cells := 1, slots := 6, locals := 90 }) (va_Pc [.ref h, .int (nI i), .int w] (yE G (yT k) (W2 k h a c C n0 M ds n1 d))) (va_Sv (fun _ => M 5 i = w)) (yX (fun E => E = "java/lang/IllegalStateException" ∧ ¬ M 5 i = w)) 1 6 (fun _ => False) := by
  refine vx_ofW (cc := cX2_requireState) (maxL := 3) (ret := none) (by decide) rfl ?_
  intro p e s m args below meth c_ s₁ B hml ht hv
  obtain ⟨rfl, hP, hK, hE⟩ := hv
  have hE : yEV0 s s.heap := hE
  have hx := B.exec
  have hb := B.bytes
  have hr := B.returns
  have hts := atoms_spec (ws := wsX2_requireState) B.pre
  have hown : s.vm.findClass RX2 = some m.cls := findClass_of_methodNamed B.named
  have hlocks := B.notSynchronized
  have hsz0 : (8 : Nat) < 2 ^ 31 := by decide
  have hsz1 : (80 : Nat) < 2 ^ 31 := by decide
  have hinX1 : ∀ w ∈ u_ws RX1 TX1 13, w ∈ wsX2_requireState := by decide +kernel
  have hinX2 : ∀ w ∈ u_ws RX2 TX2 3, w ∈ wsX2_requireState := by decide +kernel
  have fl19 := hts (.fieldLink RX2 19 "DunningDesk" "messages" "LDunningDesk$MessageBook;") (by decide +kernel)
  have hl := lv_entry [.ref h, .int (nI i), .int w] (n := 3) (Nat.le_of_ble_eq_true rfl)
  rw [lg_entry_eq]
  generalize (lg_sl [.ref h, .int (nI i), .int w] ++ List.replicate (3 - (lg_sl [.ref h, .int (nI i), .int w]).length) Slot.unset).toArray = ls at hl ⊢
  have hl : lv_has ls 3 [(0, .ref h), (1, .int (nI i)), (2, .int w)] := hl
  refine lv_aload_n hx hb dX2_requireState_0 rfl (lv_at hl 0 rfl) ?_
  refine va_get (D := G) (ci := 4) (v := .ref (c 0)) (C := RX2) (T := TX2) (N := 3) hx hb hts hinX2 hown hK hP 0 rfl rfl 1 (by decide) fl19 (fun _ h9 => h9) rfl dX2_requireState_1 ?_
  refine va_getN (D := G) (ci := 3) (v := .ref (c 6)) (C := RX1) (T := TX1) (N := 13) (host := "DunningDesk") hx hb hts hinX1 hown hK hP 8 rfl rfl 5 (by decide) (va_Nw.use rfl (hE.1 (.fieldLinkNest RX2 124 "DunningDesk$MessageBook" "states" "[C" "DunningDesk") (by decide +kernel))) (fun _ h9 => h9) rfl dX2_requireState_4 ?_
  refine lv_iload_n hx hb dX2_requireState_7 rfl (lv_at hl 1 rfl) ?_
  refine y_cald hx hb hK hP 14 2 rfl rfl (j := i) (by omega) hsz1 dX2_requireState_8 ?_
  refine lv_iload_n hx hb dX2_requireState_9 rfl (lv_at hl 2 rfl) ?_
  refine lv_icmp_eq (tgt := 23) hx hb dX2_requireState_10 (by decide) (fun c10 => ?_) (fun c10 => ?_)
  · skip
    refine W.widen (k := 1) (n := 6) (by decide) (by decide) ?_
    exact vx_ret (W.vret hx hb hr (fun τ hτ hW => ⟨rfl, (by exact c10), hτ⟩) (fun _ h9 => nomatch h9) dX2_requireState_23)
  · skip
    exact y_thr (rest := []) (ik := 42) (is := 228) (ic := 46) (cls := "java/lang/IllegalStateException") (text := "the message is in another state") hx hb hl9 hts hE hown (by decide) (by decide +kernel) (by decide +kernel) (by decide +kernel) (by decide +kernel) yat_ISE yot_ISE (hl.1.trans hml.symm) dX2_requireState_13 dX2_requireState_16 dX2_requireState_17 dX2_requireState_19 dX2_requireState_22 ht ⟨Nat.le_of_ble_eq_true rfl, Nat.le_of_ble_eq_true rfl, Nat.le_of_ble_eq_true rfl, Nat.le_of_ble_eq_true rfl⟩ hlocks (by exact ⟨rfl, c10⟩) ⟨Nat.le_of_ble_eq_true rfl, Nat.le_of_ble_eq_true rfl⟩

set_option maxHeartbeats 4000000 in
set_option maxRecDepth 100000 in
theorem c_X2_requireQueue (l : Launch) (hl9 : l.stackTraces = false) (q : Int32)  : vx_Met l yX2_requireQueue wsX2_requireQueue ({ frames := 6, cells := 1, slots := 6, locals := 90 }) (va_Pc [.int q] yEV) (va_Sv (fun _ => rg 0 2 q)) (yX (fun E => E = "java/lang/IllegalArgumentException" ∧ ¬ rg 0 2 q)) 1 6 (fun _ => False) := by
  refine vx_ofW (cc := cX2_requireQueue) (maxL := 1) (ret := none) (by decide) rfl ?_
  intro p e s m args below meth c_ s₁ B hml ht hv
  obtain ⟨rfl, hE⟩ := hv
  have hE : yEV0 s s.heap := hE
  have hx := B.exec
  have hb := B.bytes
  have hr := B.returns
  have hts := atoms_spec (ws := wsX2_requireQueue) B.pre
  have hown : s.vm.findClass RX2 = some m.cls := findClass_of_methodNamed B.named
  have hlocks := B.notSynchronized
  have hsz0 : (8 : Nat) < 2 ^ 31 := by decide
  have hsz1 : (80 : Nat) < 2 ^ 31 := by decide
  have hl := lv_entry [.int q] (n := 1) (Nat.le_of_ble_eq_true rfl)
  rw [lg_entry_eq]
  generalize (lg_sl [.int q] ++ List.replicate (1 - (lg_sl [.int q]).length) Slot.unset).toArray = ls at hl ⊢
  have hl : lv_has ls 1 [(0, .int q)] := hl
  refine lv_iload_n hx hb dX2_requireQueue_0 rfl (lv_at hl 0 rfl) ?_
  refine lv_iconst (v := 0) hx hb dX2_requireQueue_1 (by decide) ?_
  refine lv_iconst (v := 2) hx hb dX2_requireQueue_2 (by decide) ?_
  refine y_roS (As := [.int q, .int 0, .int 2]) (rest := []) ⟨hx, hb, hml, hown, hts⟩ (c_X2_isWithin l q 0 2 ) (va_cwS 3 hts gX2_requireQueue_X2_isWithin rfl rfl rfl (by decide +kernel) ⟨Nat.le_of_ble_eq_true rfl, Nat.le_of_ble_eq_true rfl⟩) rfl hl.1 rfl (Nat.le_of_ble_eq_true rfl) dX2_requireQueue_3 ⟨Nat.le_of_ble_eq_true rfl, Nat.le_of_ble_eq_true rfl⟩ (fun r hr9 => ?_)
  subst hr9
  refine lv_if_ne (tgt := 19) hx hb dX2_requireQueue_6 (by decide) (fun c6 => ?_) (fun c6 => ?_)
  · replace c6 : rg 0 2 q := b2_of1 c6
    refine W.widen (k := 1) (n := 6) (by decide) (by decide) ?_
    exact vx_ret (W.vret hx hb hr (fun τ hτ hW => ⟨rfl, (by exact c6), hτ⟩) (fun _ h9 => nomatch h9) dX2_requireQueue_19)
  · replace c6 : ¬ (rg 0 2 q) := b2_of0 c6
    exact y_thr (rest := []) (ik := 31) (is := 230) (ic := 35) (cls := "java/lang/IllegalArgumentException") (text := "there is no such queue") hx hb hl9 hts hE hown (by decide) (by decide +kernel) (by decide +kernel) (by decide +kernel) (by decide +kernel) yat_IAE yot_IAE (hl.1.trans hml.symm) dX2_requireQueue_9 dX2_requireQueue_12 dX2_requireQueue_13 dX2_requireQueue_15 dX2_requireQueue_18 ht ⟨Nat.le_of_ble_eq_true rfl, Nat.le_of_ble_eq_true rfl, Nat.le_of_ble_eq_true rfl, Nat.le_of_ble_eq_true rfl⟩ hlocks (by exact ⟨rfl, c6⟩) ⟨Nat.le_of_ble_eq_true rfl, Nat.le_of_ble_eq_true rfl⟩

set_option maxHeartbeats 4000000 in
set_option maxRecDepth 100000 in
theorem c_X2_requireClerk (l : Launch) (hl9 : l.stackTraces = false) (u : Int32)  : vx_Met l yX2_requireClerk wsX2_requireClerk ({ frames := 6, cells := 1, slots := 6, locals := 90 }) (va_Pc [.int u] yEV) (va_Sv (fun _ => rg 0 3 u)) (yX (fun E => E = "java/lang/IllegalArgumentException" ∧ ¬ rg 0 3 u)) 1 6 (fun _ => False) := by
  refine vx_ofW (cc := cX2_requireClerk) (maxL := 1) (ret := none) (by decide) rfl ?_
  intro p e s m args below meth c_ s₁ B hml ht hv
  obtain ⟨rfl, hE⟩ := hv
  have hE : yEV0 s s.heap := hE
  have hx := B.exec
  have hb := B.bytes
  have hr := B.returns
  have hts := atoms_spec (ws := wsX2_requireClerk) B.pre
  have hown : s.vm.findClass RX2 = some m.cls := findClass_of_methodNamed B.named
  have hlocks := B.notSynchronized
  have hsz0 : (8 : Nat) < 2 ^ 31 := by decide
  have hsz1 : (80 : Nat) < 2 ^ 31 := by decide
  have hl := lv_entry [.int u] (n := 1) (Nat.le_of_ble_eq_true rfl)
  rw [lg_entry_eq]
  generalize (lg_sl [.int u] ++ List.replicate (1 - (lg_sl [.int u]).length) Slot.unset).toArray = ls at hl ⊢
  have hl : lv_has ls 1 [(0, .int u)] := hl
  refine lv_iload_n hx hb dX2_requireClerk_0 rfl (lv_at hl 0 rfl) ?_
  refine lv_iconst (v := 0) hx hb dX2_requireClerk_1 (by decide) ?_
  refine lv_iconst (v := 3) hx hb dX2_requireClerk_2 (by decide) ?_
  refine y_roS (As := [.int u, .int 0, .int 3]) (rest := []) ⟨hx, hb, hml, hown, hts⟩ (c_X2_isWithin l u 0 3 ) (va_cwS 3 hts gX2_requireClerk_X2_isWithin rfl rfl rfl (by decide +kernel) ⟨Nat.le_of_ble_eq_true rfl, Nat.le_of_ble_eq_true rfl⟩) rfl hl.1 rfl (Nat.le_of_ble_eq_true rfl) dX2_requireClerk_3 ⟨Nat.le_of_ble_eq_true rfl, Nat.le_of_ble_eq_true rfl⟩ (fun r hr9 => ?_)
  subst hr9
  refine lv_if_ne (tgt := 19) hx hb dX2_requireClerk_6 (by decide) (fun c6 => ?_) (fun c6 => ?_)
  · replace c6 : rg 0 3 u := b2_of1 c6
    refine W.widen (k := 1) (n := 6) (by decide) (by decide) ?_
    exact vx_ret (W.vret hx hb hr (fun τ hτ hW => ⟨rfl, (by exact c6), hτ⟩) (fun _ h9 => nomatch h9) dX2_requireClerk_19)
  · replace c6 : ¬ (rg 0 3 u) := b2_of0 c6
    exact y_thr (rest := []) (ik := 31) (is := 232) (ic := 35) (cls := "java/lang/IllegalArgumentException") (text := "there is no such clerk") hx hb hl9 hts hE hown (by decide) (by decide +kernel) (by decide +kernel) (by decide +kernel) (by decide +kernel) yat_IAE yot_IAE (hl.1.trans hml.symm) dX2_requireClerk_9 dX2_requireClerk_12 dX2_requireClerk_13 dX2_requireClerk_15 dX2_requireClerk_18 ht ⟨Nat.le_of_ble_eq_true rfl, Nat.le_of_ble_eq_true rfl, Nat.le_of_ble_eq_true rfl, Nat.le_of_ble_eq_true rfl⟩ hlocks (by exact ⟨rfl, c6⟩) ⟨Nat.le_of_ble_eq_true rfl, Nat.le_of_ble_eq_true rfl⟩

set_option maxHeartbeats 4000000 in
set_option maxRecDepth 100000 in
theorem c_X2_isAnyReminderLeft (l : Launch) (G : va_G) (k : Nat → ClassId) (h : Nat) (a : Nat → Nat) (c : Nat → Nat) (C : Nat → Nat → Int32) (n0 : Nat) (M : Nat → Nat → Int32) (ds : Nat) (n1 : Nat) (d : Nat) (i : Nat) (hi : i < 8) (hn1 : n1 ≤ 80) : Met l yX2_isAnyReminderLeft wsX2_isAnyReminderLeft ({ frames := 1, cells := 0, slots := 0, locals := 22 }) (va_Pc [.ref h, .int (nI i)] (yF G (yT k) (W2 k h a c C n0 M ds n1 d))) (vp_Si (fun r => r = b2 (may C M n1 i))) 0 0 (fun _ => False) := by
  refine Met.ofW (cc := cX2_isAnyReminderLeft) (maxL := 3) (ret := (some .boolean)) (by decide) rfl ?_
  intro p e s m args below meth c_ s₁ B hml hv
  obtain ⟨rfl, hP, hK, hE⟩ := hv
  have hx := B.exec
  have hb := B.bytes
  have hr := B.returns
  have hts := atoms_spec (ws := wsX2_isAnyReminderLeft) B.pre
  have hown : s.vm.findClass RX2 = some m.cls := findClass_of_methodNamed B.named
  have hlocks := B.notSynchronized
  have hsz0 : (8 : Nat) < 2 ^ 31 := by decide
  have hsz1 : (80 : Nat) < 2 ^ 31 := by decide
  have hinX0 : ∀ w ∈ u_ws RX0 TX0 7, w ∈ wsX2_isAnyReminderLeft := by decide +kernel
  have hinX2 : ∀ w ∈ u_ws RX2 TX2 3, w ∈ wsX2_isAnyReminderLeft := by decide +kernel
  have fl10 := hts (.fieldLink RX2 10 "DunningDesk" "cases" "LDunningDesk$CaseBook;") (by decide +kernel)
  have fl19 := hts (.fieldLink RX2 19 "DunningDesk" "messages" "LDunningDesk$MessageBook;") (by decide +kernel)
  have hl := lv_entry [.ref h, .int (nI i)] (n := 3) (Nat.le_of_ble_eq_true rfl)
  rw [lg_entry_eq]
  generalize (lg_sl [.ref h, .int (nI i)] ++ List.replicate (3 - (lg_sl [.ref h, .int (nI i)]).length) Slot.unset).toArray = ls at hl ⊢
  have hl : lv_has ls 3 [(0, .ref h), (1, .int (nI i))] := hl
  refine lv_aload_n hx hb dX2_isAnyReminderLeft_0 rfl (lv_at hl 0 rfl) ?_
  refine va_get (D := G) (ci := 4) (v := .ref (a 0)) (C := RX2) (T := TX2) (N := 3) hx hb hts hinX2 hown hK hP 0 rfl rfl 0 (by decide) fl10 (fun _ h9 => h9) rfl dX2_isAnyReminderLeft_1 ?_
  refine va_getN (D := G) (ci := 2) (v := .ref (a 4)) (C := RX0) (T := TX0) (N := 7) (host := "DunningDesk") hx hb hts hinX0 hown hK hP 1 rfl rfl 3 (by decide) (va_Nw.use rfl (hE (.fieldLinkNest RX2 75 "DunningDesk$CaseBook" "lettersSent" "[I" "DunningDesk") (by decide +kernel))) (fun _ h9 => h9) rfl dX2_isAnyReminderLeft_4 ?_
  refine lv_iload_n hx hb dX2_isAnyReminderLeft_7 rfl (lv_at hl 1 rfl) ?_
  refine y_iald hx hb hK hP 5 0 rfl rfl (j := i) (by omega) hsz0 dX2_isAnyReminderLeft_8 ?_
  refine lv_istore_n (lv' := [(2, .int (C 2 i)), (0, .ref h), (1, .int (nI i))]) hx hb dX2_isAnyReminderLeft_9 rfl hl (by decide) rfl (fun ls hl => ?_)
  refine lv_aload_n hx hb dX2_isAnyReminderLeft_10 rfl (lv_at hl 1 rfl) ?_
  refine va_get (D := G) (ci := 4) (v := .ref (a 0)) (C := RX2) (T := TX2) (N := 3) hx hb hts hinX2 hown hK hP 0 rfl rfl 0 (by decide) fl10 (fun _ h9 => h9) rfl dX2_isAnyReminderLeft_11 ?_
  refine lv_iload_n hx hb dX2_isAnyReminderLeft_14 rfl (lv_at hl 2 rfl) ?_
  refine y_roVN (As := [.int (nI i)]) (rest := []) ⟨hx, hb, hml, hown, hts⟩ (c_X0_isOpen l G k a C n0 i (by omega)) ⟨va_cnB (host := "DunningDesk") 1 hts gX2_isAnyReminderLeft_X0_isOpen_n220 rfl rfl rfl (hE (.methodLinkNest RX2 220 yX0_isOpen "DunningDesk") (by decide +kernel)) (hts (.initialized RX0) (by decide +kernel)) (by decide +kernel) ⟨Nat.le_of_ble_eq_true rfl, Nat.le_of_ble_eq_true rfl⟩, hts (.instanceMethod yX0_isOpen) (by decide +kernel), hts (.selects RX0 yX0_isOpen yX0_isOpen) (by decide +kernel)⟩ hK (P20 hP) (va_recv hK (P20 hP) (ci := 2) (q0 := 0) rfl rfl) rfl hl.1 rfl (Nat.le_of_ble_eq_true rfl) dX2_isAnyReminderLeft_15 ⟨Nat.le_of_ble_eq_true rfl, Nat.le_of_ble_eq_true rfl⟩ (fun r hr9 => ?_)
  subst hr9
  refine lv_if_eq (tgt := 58) hx hb dX2_isAnyReminderLeft_18 (by decide) (fun c18 => ?_) (fun c18 => ?_)
  · replace c18 : ¬ (0 < C 0 i) := b2_of0 c18
    refine lv_iconst (v := 0) hx hb dX2_isAnyReminderLeft_58 (by decide) ?_
    exact W.zret (v := 0) hx hb hr (by decide) (fun τ hτ _ => ⟨_, rfl, (by first | exact (b2_f (fun h9 => c18 h9.1.1)).symm | exact (b2_f (fun h9 => c30 h9.1.2.1)).symm | exact (b2_f (fun h9 => absurd h9.1.2.2 (Int32.not_lt.mpr c35))).symm | exact (b2_f (fun h9 => c51 h9.2)).symm | exact (b2_t ⟨⟨c18, c30, Int32.not_le.mp c35⟩, c51⟩).symm), hτ⟩) (fun _ h9 => nomatch h9) dX2_isAnyReminderLeft_59
  · replace c18 : 0 < C 0 i := b2_of1 c18
    refine lv_aload_n hx hb dX2_isAnyReminderLeft_21 rfl (lv_at hl 1 rfl) ?_
    refine va_get (D := G) (ci := 4) (v := .ref (a 0)) (C := RX2) (T := TX2) (N := 3) hx hb hts hinX2 hown hK hP 0 rfl rfl 0 (by decide) fl10 (fun _ h9 => h9) rfl dX2_isAnyReminderLeft_22 ?_
    refine va_getN (D := G) (ci := 2) (v := .ref (a 6)) (C := RX0) (T := TX0) (N := 7) (host := "DunningDesk") hx hb hts hinX0 hown hK hP 1 rfl rfl 5 (by decide) (va_Nw.use rfl (hE (.fieldLinkNest RX2 71 "DunningDesk$CaseBook" "awaitsNote" "[Z" "DunningDesk") (by decide +kernel))) (fun _ h9 => h9) rfl dX2_isAnyReminderLeft_25 ?_
    refine lv_iload_n hx hb dX2_isAnyReminderLeft_28 rfl (lv_at hl 2 rfl) ?_
    refine y_zald hx hb hK hP 7 1 rfl rfl (j := i) (by omega) hsz0 dX2_isAnyReminderLeft_29 ?_
    refine lv_if_ne (tgt := 58) hx hb dX2_isAnyReminderLeft_30 (by decide) (fun c30 => ?_) (fun c30 => ?_)
    · skip
      refine lv_iconst (v := 0) hx hb dX2_isAnyReminderLeft_58 (by decide) ?_
      exact W.zret (v := 0) hx hb hr (by decide) (fun τ hτ _ => ⟨_, rfl, (by first | exact (b2_f (fun h9 => c18 h9.1.1)).symm | exact (b2_f (fun h9 => c30 h9.1.2.1)).symm | exact (b2_f (fun h9 => absurd h9.1.2.2 (Int32.not_lt.mpr c35))).symm | exact (b2_f (fun h9 => c51 h9.2)).symm | exact (b2_t ⟨⟨c18, c30, Int32.not_le.mp c35⟩, c51⟩).symm), hτ⟩) (fun _ h9 => nomatch h9) dX2_isAnyReminderLeft_59
    · skip
      refine lv_iload_n hx hb dX2_isAnyReminderLeft_33 rfl (lv_at hl 0 rfl) ?_
      refine lv_iconst (v := 3) hx hb dX2_isAnyReminderLeft_34 (by decide) ?_
      refine lv_icmp_ge (tgt := 58) hx hb dX2_isAnyReminderLeft_35 (by decide) (fun c35 => ?_) (fun c35 => ?_)
      · skip
        refine lv_iconst (v := 0) hx hb dX2_isAnyReminderLeft_58 (by decide) ?_
        exact W.zret (v := 0) hx hb hr (by decide) (fun τ hτ _ => ⟨_, rfl, (by first | exact (b2_f (fun h9 => c18 h9.1.1)).symm | exact (b2_f (fun h9 => c30 h9.1.2.1)).symm | exact (b2_f (fun h9 => absurd h9.1.2.2 (Int32.not_lt.mpr c35))).symm | exact (b2_f (fun h9 => c51 h9.2)).symm | exact (b2_t ⟨⟨c18, c30, Int32.not_le.mp c35⟩, c51⟩).symm), hτ⟩) (fun _ h9 => nomatch h9) dX2_isAnyReminderLeft_59
      · skip
        refine lv_aload_n hx hb dX2_isAnyReminderLeft_38 rfl (lv_at hl 1 rfl) ?_
        refine va_get (D := G) (ci := 4) (v := .ref (c 0)) (C := RX2) (T := TX2) (N := 3) hx hb hts hinX2 hown hK hP 0 rfl rfl 1 (by decide) fl19 (fun _ h9 => h9) rfl dX2_isAnyReminderLeft_39 ?_
        refine lv_iload_n hx hb dX2_isAnyReminderLeft_42 rfl (lv_at hl 2 rfl) ?_
        refine lv_iload_n hx hb dX2_isAnyReminderLeft_43 rfl (lv_at hl 0 rfl) ?_
        refine y_roS (As := [.int (nI i), .int (C 2 i)]) (rest := [.ref (c 0)]) ⟨hx, hb, hml, hown, hts⟩ (c_X2_reminderKey l i (C 2 i) ) (va_cwS 2 hts gX2_isAnyReminderLeft_X2_reminderKey rfl rfl rfl (by decide +kernel) ⟨Nat.le_of_ble_eq_true rfl, Nat.le_of_ble_eq_true rfl⟩) rfl hl.1 rfl (Nat.le_of_ble_eq_true rfl) dX2_isAnyReminderLeft_44 ⟨Nat.le_of_ble_eq_true rfl, Nat.le_of_ble_eq_true rfl⟩ (fun r hr9 => ?_)
        subst hr9
        refine y_roVN (As := [.int (1000 + 10 * nI i + (C 2 i))]) (rest := []) ⟨hx, hb, hml, hown, hts⟩ (c_X1_find l G k c M ds n1 (1000 + 10 * nI i + (C 2 i)) (by omega)) ⟨va_cnB (host := "DunningDesk") 1 hts gX2_isAnyReminderLeft_X1_find_n112 rfl rfl rfl (hE (.methodLinkNest RX2 112 yX1_find "DunningDesk") (by decide +kernel)) (hts (.initialized RX1) (by decide +kernel)) (by decide +kernel) ⟨Nat.le_of_ble_eq_true rfl, Nat.le_of_ble_eq_true rfl⟩, hts (.instanceMethod yX1_find) (by decide +kernel), hts (.selects RX1 yX1_find yX1_find) (by decide +kernel)⟩ hK (P21 hP) (va_recv hK (P21 hP) (ci := 3) (q0 := 0) rfl rfl) rfl hl.1 rfl (Nat.le_of_ble_eq_true rfl) dX2_isAnyReminderLeft_47 ⟨Nat.le_of_ble_eq_true rfl, Nat.le_of_ble_eq_true rfl⟩ (fun r hr9 => ?_)
        subst hr9
        refine lv_iconst (v := (-1)) hx hb dX2_isAnyReminderLeft_50 (by decide) ?_
        refine lv_icmp_ne (tgt := 58) hx hb dX2_isAnyReminderLeft_51 (by decide) (fun c51 => ?_) (fun c51 => ?_)
        · replace c51 : ¬ fnd (M 1) (1000 + 10 * nI i + C 2 i) n1 0 = none := fun h9 => c51 (by rw [h9]; rfl)
          refine lv_iconst (v := 0) hx hb dX2_isAnyReminderLeft_58 (by decide) ?_
          exact W.zret (v := 0) hx hb hr (by decide) (fun τ hτ _ => ⟨_, rfl, (by first | exact (b2_f (fun h9 => c18 h9.1.1)).symm | exact (b2_f (fun h9 => c30 h9.1.2.1)).symm | exact (b2_f (fun h9 => absurd h9.1.2.2 (Int32.not_lt.mpr c35))).symm | exact (b2_f (fun h9 => c51 h9.2)).symm | exact (b2_t ⟨⟨c18, c30, Int32.not_le.mp c35⟩, c51⟩).symm), hτ⟩) (fun _ h9 => nomatch h9) dX2_isAnyReminderLeft_59
        · replace c51 : fnd (M 1) (1000 + 10 * nI i + C 2 i) n1 0 = none := oI_none (fun z h => by have := fnd_lt h; omega) c51
          refine lv_iconst (v := 1) hx hb dX2_isAnyReminderLeft_54 (by decide) ?_
          refine lv_goto (tgt := 59) hx hb dX2_isAnyReminderLeft_55 (by decide) ?_
          exact W.zret (v := 1) hx hb hr (by decide) (fun τ hτ _ => ⟨_, rfl, (by first | exact (b2_f (fun h9 => c18 h9.1.1)).symm | exact (b2_f (fun h9 => c30 h9.1.2.1)).symm | exact (b2_f (fun h9 => absurd h9.1.2.2 (Int32.not_lt.mpr c35))).symm | exact (b2_f (fun h9 => c51 h9.2)).symm | exact (b2_t ⟨⟨c18, c30, Int32.not_le.mp c35⟩, c51⟩).symm), hτ⟩) (fun _ h9 => nomatch h9) dX2_isAnyReminderLeft_59

set_option maxHeartbeats 4000000 in
set_option maxRecDepth 100000 in
theorem c_X2_isReminderDue (l : Launch) (G : va_G) (k : Nat → ClassId) (h : Nat) (a : Nat → Nat) (c : Nat → Nat) (C : Nat → Nat → Int32) (n0 : Nat) (M : Nat → Nat → Int32) (ds : Nat) (n1 : Nat) (d : Nat) (i : Nat) (hi : i < 8) (hn1 : n1 ≤ 80) : Met l yX2_isReminderDue wsX2_isReminderDue ({ frames := 2, cells := 0, slots := 0, locals := 44 }) (va_Pc [.ref h, .int (nI i)] (yF G (yT k) (W2 k h a c C n0 M ds n1 d))) (vp_Si (fun r => r = b2 (may C M n1 i ∧ rfr C i ≤ nI d))) 0 0 (fun _ => False) := by
  refine Met.ofW (cc := cX2_isReminderDue) (maxL := 2) (ret := (some .boolean)) (by decide) rfl ?_
  intro p e s m args below meth c_ s₁ B hml hv
  obtain ⟨rfl, hP, hK, hE⟩ := hv
  have hx := B.exec
  have hb := B.bytes
  have hr := B.returns
  have hts := atoms_spec (ws := wsX2_isReminderDue) B.pre
  have hown : s.vm.findClass RX2 = some m.cls := findClass_of_methodNamed B.named
  have hlocks := B.notSynchronized
  have hsz0 : (8 : Nat) < 2 ^ 31 := by decide
  have hsz1 : (80 : Nat) < 2 ^ 31 := by decide
  have hinX0 : ∀ w ∈ u_ws RX0 TX0 7, w ∈ wsX2_isReminderDue := by decide +kernel
  have hinX2 : ∀ w ∈ u_ws RX2 TX2 3, w ∈ wsX2_isReminderDue := by decide +kernel
  have fl23 := hts (.fieldLink RX2 23 "DunningDesk" "today" "I") (by decide +kernel)
  have fl10 := hts (.fieldLink RX2 10 "DunningDesk" "cases" "LDunningDesk$CaseBook;") (by decide +kernel)
  have hl := lv_entry [.ref h, .int (nI i)] (n := 2) (Nat.le_of_ble_eq_true rfl)
  rw [lg_entry_eq]
  generalize (lg_sl [.ref h, .int (nI i)] ++ List.replicate (2 - (lg_sl [.ref h, .int (nI i)]).length) Slot.unset).toArray = ls at hl ⊢
  have hl : lv_has ls 2 [(0, .ref h), (1, .int (nI i))] := hl
  refine lv_aload_n hx hb dX2_isReminderDue_0 rfl (lv_at hl 0 rfl) ?_
  refine lv_iload_n hx hb dX2_isReminderDue_1 rfl (lv_at hl 1 rfl) ?_
  refine y_reV hE (As := [.int (nI i)]) (rest := []) ⟨hx, hb, hml, hown, hts⟩ (c_X2_isAnyReminderLeft l G k h a c C n0 M ds n1 d i (by omega) (by omega)) (cwV 1 hts gX2_isReminderDue_X2_isAnyReminderLeft rfl rfl rfl (by decide +kernel) ⟨Nat.le_of_ble_eq_true rfl, Nat.le_of_ble_eq_true rfl⟩) hK hP (va_recv hK hP (ci := 4) (q0 := 0) rfl rfl) rfl hl.1 rfl (Nat.le_of_ble_eq_true rfl) dX2_isReminderDue_2 ⟨Nat.le_of_ble_eq_true rfl, Nat.le_of_ble_eq_true rfl⟩ (fun r hr9 => ?_)
  subst hr9
  refine lv_if_eq (tgt := 43) hx hb dX2_isReminderDue_5 (by decide) (fun c5 => ?_) (fun c5 => ?_)
  · replace c5 : ¬ (may C M n1 i) := b2_of0 c5
    refine lv_iconst (v := 0) hx hb dX2_isReminderDue_43 (by decide) ?_
    exact W.zret (v := 0) hx hb hr (by decide) (fun τ hτ _ => ⟨_, rfl, (by first | exact (b2_f (fun h9 => c5 h9.1)).symm | exact (b2_f (fun h9 => absurd (mx_le.mp h9.2).1 (Int32.not_le.mpr c21))).symm | exact (b2_f (fun h9 => absurd (mx_le.mp h9.2).2 (Int32.not_le.mpr c36))).symm | exact (b2_t ⟨c5, mx_le.mpr ⟨Int32.not_lt.mp c21, Int32.not_lt.mp c36⟩⟩).symm), hτ⟩) (fun _ h9 => nomatch h9) dX2_isReminderDue_44
  · replace c5 : may C M n1 i := b2_of1 c5
    refine lv_aload_n hx hb dX2_isReminderDue_8 rfl (lv_at hl 0 rfl) ?_
    refine va_get (D := G) (ci := 4) (v := .int (nI d)) (C := RX2) (T := TX2) (N := 3) hx hb hts hinX2 hown hK hP 0 rfl rfl 2 (by decide) fl23 (fun _ h9 => h9) rfl dX2_isReminderDue_9 ?_
    refine lv_aload_n hx hb dX2_isReminderDue_12 rfl (lv_at hl 0 rfl) ?_
    refine va_get (D := G) (ci := 4) (v := .ref (a 0)) (C := RX2) (T := TX2) (N := 3) hx hb hts hinX2 hown hK hP 0 rfl rfl 0 (by decide) fl10 (fun _ h9 => h9) rfl dX2_isReminderDue_13 ?_
    refine va_getN (D := G) (ci := 2) (v := .ref (a 5)) (C := RX0) (T := TX0) (N := 7) (host := "DunningDesk") hx hb hts hinX0 hown hK hP 1 rfl rfl 4 (by decide) (va_Nw.use rfl (hE (.fieldLinkNest RX2 102 "DunningDesk$CaseBook" "pauseEnds" "[I" "DunningDesk") (by decide +kernel))) (fun _ h9 => h9) rfl dX2_isReminderDue_16 ?_
    refine lv_iload_n hx hb dX2_isReminderDue_19 rfl (lv_at hl 1 rfl) ?_
    refine y_iald hx hb hK hP 6 0 rfl rfl (j := i) (by omega) hsz0 dX2_isReminderDue_20 ?_
    refine lv_icmp_lt (tgt := 43) hx hb dX2_isReminderDue_21 (by decide) (fun c21 => ?_) (fun c21 => ?_)
    · skip
      refine lv_iconst (v := 0) hx hb dX2_isReminderDue_43 (by decide) ?_
      exact W.zret (v := 0) hx hb hr (by decide) (fun τ hτ _ => ⟨_, rfl, (by first | exact (b2_f (fun h9 => c5 h9.1)).symm | exact (b2_f (fun h9 => absurd (mx_le.mp h9.2).1 (Int32.not_le.mpr c21))).symm | exact (b2_f (fun h9 => absurd (mx_le.mp h9.2).2 (Int32.not_le.mpr c36))).symm | exact (b2_t ⟨c5, mx_le.mpr ⟨Int32.not_lt.mp c21, Int32.not_lt.mp c36⟩⟩).symm), hτ⟩) (fun _ h9 => nomatch h9) dX2_isReminderDue_44
    · skip
      refine lv_aload_n hx hb dX2_isReminderDue_24 rfl (lv_at hl 0 rfl) ?_
      refine va_get (D := G) (ci := 4) (v := .int (nI d)) (C := RX2) (T := TX2) (N := 3) hx hb hts hinX2 hown hK hP 0 rfl rfl 2 (by decide) fl23 (fun _ h9 => h9) rfl dX2_isReminderDue_25 ?_
      refine lv_aload_n hx hb dX2_isReminderDue_28 rfl (lv_at hl 0 rfl) ?_
      refine va_get (D := G) (ci := 4) (v := .ref (a 0)) (C := RX2) (T := TX2) (N := 3) hx hb hts hinX2 hown hK hP 0 rfl rfl 0 (by decide) fl10 (fun _ h9 => h9) rfl dX2_isReminderDue_29 ?_
      refine lv_iload_n hx hb dX2_isReminderDue_32 rfl (lv_at hl 1 rfl) ?_
      refine y_roVN (As := [.int (nI i)]) (rest := [.int (nI d)]) ⟨hx, hb, hml, hown, hts⟩ (c_X0_reminderDay l G k a C n0 i (by omega)) ⟨va_cnB (host := "DunningDesk") 1 hts gX2_isReminderDue_X0_reminderDay_n93 rfl rfl rfl (hE (.methodLinkNest RX2 93 yX0_reminderDay "DunningDesk") (by decide +kernel)) (hts (.initialized RX0) (by decide +kernel)) (by decide +kernel) ⟨Nat.le_of_ble_eq_true rfl, Nat.le_of_ble_eq_true rfl⟩, hts (.instanceMethod yX0_reminderDay) (by decide +kernel), hts (.selects RX0 yX0_reminderDay yX0_reminderDay) (by decide +kernel)⟩ hK (P20 hP) (va_recv hK (P20 hP) (ci := 2) (q0 := 0) rfl rfl) rfl hl.1 rfl (Nat.le_of_ble_eq_true rfl) dX2_isReminderDue_33 ⟨Nat.le_of_ble_eq_true rfl, Nat.le_of_ble_eq_true rfl⟩ (fun r hr9 => ?_)
      subst hr9
      refine lv_icmp_lt (tgt := 43) hx hb dX2_isReminderDue_36 (by decide) (fun c36 => ?_) (fun c36 => ?_)
      · skip
        refine lv_iconst (v := 0) hx hb dX2_isReminderDue_43 (by decide) ?_
        exact W.zret (v := 0) hx hb hr (by decide) (fun τ hτ _ => ⟨_, rfl, (by first | exact (b2_f (fun h9 => c5 h9.1)).symm | exact (b2_f (fun h9 => absurd (mx_le.mp h9.2).1 (Int32.not_le.mpr c21))).symm | exact (b2_f (fun h9 => absurd (mx_le.mp h9.2).2 (Int32.not_le.mpr c36))).symm | exact (b2_t ⟨c5, mx_le.mpr ⟨Int32.not_lt.mp c21, Int32.not_lt.mp c36⟩⟩).symm), hτ⟩) (fun _ h9 => nomatch h9) dX2_isReminderDue_44
      · skip
        refine lv_iconst (v := 1) hx hb dX2_isReminderDue_39 (by decide) ?_
        refine lv_goto (tgt := 44) hx hb dX2_isReminderDue_40 (by decide) ?_
        exact W.zret (v := 1) hx hb hr (by decide) (fun τ hτ _ => ⟨_, rfl, (by first | exact (b2_f (fun h9 => c5 h9.1)).symm | exact (b2_f (fun h9 => absurd (mx_le.mp h9.2).1 (Int32.not_le.mpr c21))).symm | exact (b2_f (fun h9 => absurd (mx_le.mp h9.2).2 (Int32.not_le.mpr c36))).symm | exact (b2_t ⟨c5, mx_le.mpr ⟨Int32.not_lt.mp c21, Int32.not_lt.mp c36⟩⟩).symm), hτ⟩) (fun _ h9 => nomatch h9) dX2_isReminderDue_44

set_option maxHeartbeats 4000000 in
set_option maxRecDepth 100000 in
theorem c_X2_postReminders (l : Launch) (G : va_G) (k : Nat → ClassId) (h : Nat) (a : Nat → Nat) (c : Nat → Nat) (C : Nat → Nat → Int32) (n0 : Nat) (M : Nat → Nat → Int32) (ds : Nat) (n1 : Nat) (d : Nat) (sz : Nat)  (hND : va_D (fun _ => True) (W2 k h a c C n0 M ds n1 d)) (hn : n0 ≤ 8) (hn1 : n1 ≤ 80) : Met l yX2_postReminders wsX2_postReminders ({ frames := 3, cells := 0, slots := 0, locals := 65 }) (va_Pc [.ref h] (yFs G (yT k) (W2 k h a c C n0 M ds n1 d) sz)) (va_Qi (fun (r : Int32) (_ : Unit) => r = nI (rms C (nI d) n0 0 (0, M, n1)).1) (fun _ τ => va_P G vwCl (W2 k h a c C n0 ((rms C (nI d) n0 0 (0, M, n1)).2.1) ds ((rms C (nI d) n0 0 (0, M, n1)).2.2) d) τ.heap) (va_A (W2 k h a c C n0 M ds n1 d) sz)) 0 0 (va_A (W2 k h a c C n0 M ds n1 d) sz) := by
  refine Met.ofW (cc := cX2_postReminders) (maxL := 4) (ret := (some .int)) (by decide) rfl ?_
  intro p e s m args below meth c_ s₁ B hml hv
  obtain ⟨rfl, hsz, hP, hK, hE⟩ := hv
  have hx := B.exec
  have hb := B.bytes
  have hr := B.returns
  have hts := atoms_spec (ws := wsX2_postReminders) B.pre
  have hown : s.vm.findClass RX2 = some m.cls := findClass_of_methodNamed B.named
  have hlocks := B.notSynchronized
  have hsz0 : (8 : Nat) < 2 ^ 31 := by decide
  have hsz1 : (80 : Nat) < 2 ^ 31 := by decide
  subst hsz
  have hD := hND.self (sz := s.heap.size)
  generalize hAe : va_A (W2 k h a c C n0 M ds n1 d) s.heap.size = A at hD ⊢
  have hA : ∀ q : Nat, s.heap.size ≤ q → A q := fun q h => by rw [← hAe]; exact Or.inr h
  have hS : va_S A s.heap s.heap [] := va_S.rf
  have hND0 : va_D (fun _ => True) (W0 k a C n0) := hND.sub [1, 2, 3, 4, 5, 6, 7] (by decide) rfl
  have hND1 : va_D (fun _ => True) (W1 k c M ds n1) := hND.sub [8, 9, 10, 11, 12, 13, 14, 15, 16, 17, 18, 19] (by decide) rfl
  have hinX0 : ∀ w ∈ u_ws RX0 TX0 7, w ∈ wsX2_postReminders := by decide +kernel
  have hinX2 : ∀ w ∈ u_ws RX2 TX2 3, w ∈ wsX2_postReminders := by decide +kernel
  have fl10 := hts (.fieldLink RX2 10 "DunningDesk" "cases" "LDunningDesk$CaseBook;") (by decide +kernel)
  have fl19 := hts (.fieldLink RX2 19 "DunningDesk" "messages" "LDunningDesk$MessageBook;") (by decide +kernel)
  have fl23 := hts (.fieldLink RX2 23 "DunningDesk" "today" "I") (by decide +kernel)
  have hl := lv_entry [.ref h] (n := 4) (Nat.le_of_ble_eq_true rfl)
  rw [lg_entry_eq]
  generalize (lg_sl [.ref h] ++ List.replicate (4 - (lg_sl [.ref h]).length) Slot.unset).toArray = ls at hl ⊢
  have hl : lv_has ls 4 [(0, .ref h)] := hl
  refine lv_iconst (v := 0) hx hb dX2_postReminders_0 (by decide) ?_
  refine lv_istore_n (lv' := [(1, .int 0), (0, .ref h)]) hx hb dX2_postReminders_1 rfl hl (by decide) rfl (fun ls hl => ?_)
  refine lv_iconst (v := 0) hx hb dX2_postReminders_2 (by decide) ?_
  refine lv_istore_n (lv' := [(2, .int 0), (1, .int 0), (0, .ref h)]) hx hb dX2_postReminders_3 rfl hl (by decide) rfl (fun ls hl => ?_)
  have hl : lv_has ls 4 [(2, .int (nI 0)), (1, .int (nI 0)), (0, .ref h)] := lv_sub hl [0, 1, 2] rfl
  refine y_loop (σ := Nat × Nat × (Nat → Nat → Int32) × Nat) (fun r xσ H locs ls => xσ.2.1 + r = n0 ∧ xσ.2.2.2 ≤ 80 ∧ xσ.1 ≤ xσ.2.1 ∧ (rms C (nI d) n0 0 (0, M, n1)) = rms C (nI d) r xσ.2.1 (xσ.1, xσ.2.2.1, xσ.2.2.2) ∧ va_P G vwCl (W2 k h a c C n0 xσ.2.2.1 ds xσ.2.2.2 d) H ∧ va_D A (W2 k h a c C n0 xσ.2.2.1 ds xσ.2.2.2 d) ∧ va_S A s.heap H locs ∧ lv_has ls 4 [(2, .int (nI xσ.2.1)), (1, .int (nI xσ.1)), (0, .ref h)]) (fun r xσ H locs ls hI ih4 => ?_) n0 (0, 0, M, n1) _ _ _ ⟨(by dsimp only; omega), hn1, (Nat.le_refl 0), rfl, hP, hD, hS, hl⟩
  obtain ⟨po, z9, N2, m2⟩ := xσ
  obtain ⟨hz, hm2, hpo, hv2, hP, hD, hS, hl⟩ := hI
  dsimp only at hz hm2 hpo hv2 hP hD hl
  refine lv_iload_n hx hb dX2_postReminders_4 rfl (lv_at hl 0 rfl) ?_
  refine lv_aload_n hx hb dX2_postReminders_5 rfl (lv_at hl 2 rfl) ?_
  refine va_get (D := G) (ci := 4) (v := .ref (a 0)) (C := RX2) (T := TX2) (N := 3) hx hb hts hinX2 hown hK hP 0 rfl rfl 0 (by decide) fl10 (fun _ h9 => h9) rfl dX2_postReminders_6 ?_
  refine va_getN (D := G) (ci := 2) (v := .int (nI n0)) (C := RX0) (T := TX0) (N := 7) (host := "DunningDesk") hx hb hts hinX0 hown hK hP 1 rfl rfl 6 (by decide) (va_Nw.use rfl (hE (.fieldLinkNest RX2 253 "DunningDesk$CaseBook" "size" "I" "DunningDesk") (by decide +kernel))) (fun _ h9 => h9) rfl dX2_postReminders_9 ?_
  refine lv_icmp_ge (tgt := 74) hx hb dX2_postReminders_12 (by decide) (fun c12 => ?_) (fun c12 => ?_)
  · replace c12 : n0 ≤ z9 := (nI_leI (a := n0) (b := z9) (by omega) (by omega)).mp c12
    refine lv_iload_n hx hb dX2_postReminders_74 rfl (lv_at hl 1 rfl) ?_
    have hPf : va_P G vwCl (W2 k h a c C n0 ((rms C (nI d) n0 0 (0, M, n1)).2.1) ds ((rms C (nI d) n0 0 (0, M, n1)).2.2) d) H := by (obtain rfl : r = 0 := by omega); rw [hv2]; exact hP
    exact W.iret (v := (nI po)) hx hb hr (fun τ hτ hW => ⟨⟨_, (), rfl, (by (obtain rfl : r = 0 := by omega); rw [hv2]; rfl), yPt hPf hτ⟩, hS.F hτ⟩) hS.2.2 dX2_postReminders_75
  · replace c12 : ¬ n0 ≤ z9 := fun h9 => c12 ((nI_leI (a := n0) (b := z9) (by omega) (by omega)).mpr h9)
    obtain ⟨r9, rfl⟩ : ∃ r9, r = r9 + 1 := ⟨r - 1, by omega⟩
    refine lv_aload_n hx hb dX2_postReminders_15 rfl (lv_at hl 2 rfl) ?_
    refine va_get (D := G) (ci := 4) (v := .ref (c 0)) (C := RX2) (T := TX2) (N := 3) hx hb hts hinX2 hown hK hP 0 rfl rfl 1 (by decide) fl19 (fun _ h9 => h9) rfl dX2_postReminders_16 ?_
    refine y_roVN (As := []) (rest := []) ⟨hx, hb, hml, hown, hts⟩ (c_X1_isFull l G k c N2 ds m2  (by omega)) ⟨va_cnB (host := "DunningDesk") 0 hts gX2_postReminders_X1_isFull_n115 rfl rfl rfl (hE (.methodLinkNest RX2 115 yX1_isFull "DunningDesk") (by decide +kernel)) (hts (.initialized RX1) (by decide +kernel)) (by decide +kernel) ⟨Nat.le_of_ble_eq_true rfl, Nat.le_of_ble_eq_true rfl⟩, hts (.instanceMethod yX1_isFull) (by decide +kernel), hts (.selects RX1 yX1_isFull yX1_isFull) (by decide +kernel)⟩ hK (P21 hP) (va_recv hK (P21 hP) (ci := 3) (q0 := 0) rfl rfl) rfl hl.1 rfl (Nat.le_of_ble_eq_true rfl) dX2_postReminders_19 ⟨Nat.le_of_ble_eq_true rfl, Nat.le_of_ble_eq_true rfl⟩ (fun r hr9 => ?_)
    subst hr9
    refine lv_if_ne (tgt := 68) hx hb dX2_postReminders_22 (by decide) (fun c22 => ?_) (fun c22 => ?_)
    · replace c22 : 80 ≤ m2 := b2_of1 c22
      refine lv_iinc (v := nI (z9 + 1)) (lv' := [(2, .int (nI (z9 + 1))), (1, .int (nI po)), (0, .ref h)]) hx hb dX2_postReminders_68 hl (k := 0) rfl (nI_1 z9) (by decide) rfl (fun ls hl => ?_)
      refine lv_goto (tgt := 4) hx hb dX2_postReminders_71 (by decide) ?_
      exact ih4 r9 (po, z9 + 1, N2, m2) _ _ _ (by omega) ⟨(by dsimp only; omega), (by dsimp only; omega), (by dsimp only; omega), (by rw [hv2]; apply rms_1; unfold rmst; first | exact if_pos ⟨Nat.not_le.mp c22, c30⟩ | exact if_neg (fun h9 => absurd h9.1 (Nat.not_lt.mpr c22)) | exact if_neg (fun h9 => c30 h9.2)), hP, hD, hS, lv_sub hl [0, 1, 2] rfl⟩
    · replace c22 : ¬ (80 ≤ m2) := b2_of0 c22
      refine lv_aload_n hx hb dX2_postReminders_25 rfl (lv_at hl 2 rfl) ?_
      refine lv_iload_n hx hb dX2_postReminders_26 rfl (lv_at hl 0 rfl) ?_
      refine y_reV hE (As := [.int (nI z9)]) (rest := []) ⟨hx, hb, hml, hown, hts⟩ (c_X2_isReminderDue l G k h a c C n0 N2 ds m2 d z9 (by omega) (by omega)) (cwV 1 hts gX2_postReminders_X2_isReminderDue rfl rfl rfl (by decide +kernel) ⟨Nat.le_of_ble_eq_true rfl, Nat.le_of_ble_eq_true rfl⟩) hK hP (va_recv hK hP (ci := 4) (q0 := 0) rfl rfl) rfl hl.1 rfl (Nat.le_of_ble_eq_true rfl) dX2_postReminders_27 ⟨Nat.le_of_ble_eq_true rfl, Nat.le_of_ble_eq_true rfl⟩ (fun r hr9 => ?_)
      subst hr9
      refine lv_if_eq (tgt := 68) hx hb dX2_postReminders_30 (by decide) (fun c30 => ?_) (fun c30 => ?_)
      · replace c30 : ¬ (may C N2 m2 z9 ∧ rfr C z9 ≤ nI d) := b2_of0 c30
        refine lv_iinc (v := nI (z9 + 1)) (lv' := [(2, .int (nI (z9 + 1))), (1, .int (nI po)), (0, .ref h)]) hx hb dX2_postReminders_68 hl (k := 0) rfl (nI_1 z9) (by decide) rfl (fun ls hl => ?_)
        refine lv_goto (tgt := 4) hx hb dX2_postReminders_71 (by decide) ?_
        exact ih4 r9 (po, z9 + 1, N2, m2) _ _ _ (by omega) ⟨(by dsimp only; omega), (by dsimp only; omega), (by dsimp only; omega), (by rw [hv2]; apply rms_1; unfold rmst; first | exact if_pos ⟨Nat.not_le.mp c22, c30⟩ | exact if_neg (fun h9 => absurd h9.1 (Nat.not_lt.mpr c22)) | exact if_neg (fun h9 => c30 h9.2)), hP, hD, hS, lv_sub hl [0, 1, 2] rfl⟩
      · replace c30 : may C N2 m2 z9 ∧ rfr C z9 ≤ nI d := b2_of1 c30
        refine lv_aload_n hx hb dX2_postReminders_33 rfl (lv_at hl 2 rfl) ?_
        refine va_get (D := G) (ci := 4) (v := .ref (a 0)) (C := RX2) (T := TX2) (N := 3) hx hb hts hinX2 hown hK hP 0 rfl rfl 0 (by decide) fl10 (fun _ h9 => h9) rfl dX2_postReminders_34 ?_
        refine va_getN (D := G) (ci := 2) (v := .ref (a 4)) (C := RX0) (T := TX0) (N := 7) (host := "DunningDesk") hx hb hts hinX0 hown hK hP 1 rfl rfl 3 (by decide) (va_Nw.use rfl (hE (.fieldLinkNest RX2 75 "DunningDesk$CaseBook" "lettersSent" "[I" "DunningDesk") (by decide +kernel))) (fun _ h9 => h9) rfl dX2_postReminders_37 ?_
        refine lv_iload_n hx hb dX2_postReminders_40 rfl (lv_at hl 0 rfl) ?_
        refine y_iald hx hb hK hP 5 0 rfl rfl (j := z9) (by omega) hsz0 dX2_postReminders_41 ?_
        refine lv_istore_n (lv' := [(3, .int (C 2 z9)), (2, .int (nI z9)), (1, .int (nI po)), (0, .ref h)]) hx hb dX2_postReminders_42 rfl hl (by decide) rfl (fun ls hl => ?_)
        refine lv_aload_n hx hb dX2_postReminders_43 rfl (lv_at hl 3 rfl) ?_
        refine va_get (D := G) (ci := 4) (v := .ref (c 0)) (C := RX2) (T := TX2) (N := 3) hx hb hts hinX2 hown hK hP 0 rfl rfl 1 (by decide) fl19 (fun _ h9 => h9) rfl dX2_postReminders_44 ?_
        refine lv_iconst (v := 0) hx hb dX2_postReminders_47 (by decide) ?_
        refine lv_iload_n hx hb dX2_postReminders_48 rfl (lv_at hl 1 rfl) ?_
        refine lv_iload_n hx hb dX2_postReminders_49 rfl (lv_at hl 0 rfl) ?_
        refine y_roS (As := [.int (nI z9), .int (C 2 z9)]) (rest := [.int 0, .ref (c 0)]) ⟨hx, hb, hml, hown, hts⟩ (c_X2_reminderKey l z9 (C 2 z9) ) (va_cwS 2 hts gX2_postReminders_X2_reminderKey rfl rfl rfl (by decide +kernel) ⟨Nat.le_of_ble_eq_true rfl, Nat.le_of_ble_eq_true rfl⟩) rfl hl.1 rfl (Nat.le_of_ble_eq_true rfl) dX2_postReminders_50 ⟨Nat.le_of_ble_eq_true rfl, Nat.le_of_ble_eq_true rfl⟩ (fun r hr9 => ?_)
        subst hr9
        refine lv_bipush (v := 114) hx hb dX2_postReminders_53 (by decide) ?_
        refine lv_iload_n hx hb dX2_postReminders_55 rfl (lv_at hl 1 rfl) ?_
        refine lv_iload_n hx hb dX2_postReminders_56 rfl (lv_at hl 0 rfl) ?_
        refine lv_aload_n hx hb dX2_postReminders_57 rfl (lv_at hl 3 rfl) ?_
        refine va_get (D := G) (ci := 4) (v := .int (nI d)) (C := RX2) (T := TX2) (N := 3) hx hb hts hinX2 hown hK hP 0 rfl rfl 2 (by decide) fl23 (fun _ h9 => h9) rfl dX2_postReminders_58 ?_
        have hfr9 : ∀ q, va_A (W1 k c N2 ds m2) _ q → A q := va_free hD hS hA [8, 9, 10, 11, 12, 13, 14, 15, 16, 17, 18, 19] rfl
        refine y_rwVN (w := W1 k c N2 ds m2) (w' := fun (_ : Unit) => W1 k c (madd N2 m2 0 (1000 + 10 * nI z9 + (C 2 z9)) 114 (nI z9) (C 2 z9) (nI d)) ds (m2 + 1)) (As := [.int 0, .int (1000 + 10 * nI z9 + (C 2 z9)), .int 114, .int (nI z9), .int (C 2 z9), .int (nI d)]) (rest := []) ⟨hx, hb, hml, hown, hts⟩ (c_X1_add l G k c N2 ds m2 _ 0 (1000 + 10 * nI z9 + (C 2 z9)) 114 (nI z9) (C 2 z9) (nI d) (yD hND1 rfl) (by omega) (by decide)) ⟨va_cnB (host := "DunningDesk") 6 hts gX2_postReminders_X1_add_n118 rfl rfl rfl (hE (.methodLinkNest RX2 118 yX1_add "DunningDesk") (by decide +kernel)) (hts (.initialized RX1) (by decide +kernel)) (by decide +kernel) ⟨Nat.le_of_ble_eq_true rfl, Nat.le_of_ble_eq_true rfl⟩, hts (.instanceMethod yX1_add) (by decide +kernel), hts (.selects RX1 yX1_add yX1_add) (by decide +kernel)⟩ hK (P21 hP) (va_recv hK (P21 hP) (ci := 3) (q0 := 0) rfl rfl) hS hfr9 rfl hl.1 rfl (Nat.le_of_ble_eq_true rfl) dX2_postReminders_61 ⟨Nat.le_of_ble_eq_true rfl, Nat.le_of_ble_eq_true rfl⟩ (fun r u9 H1 locs1 hr9 hP9 hz9 hk9 hS9 => ?_)
        have hP9 : va_P G vwCl (W2 k h a c C n0 (madd N2 m2 0 (1000 + 10 * nI z9 + (C 2 z9)) 114 (nI z9) (C 2 z9) (nI d)) ds (m2 + 1) d) H1 := J21 hP hD hfr9 hk9 hP9
        have hD9 : va_D A (W2 k h a c C n0 (madd N2 m2 0 (1000 + 10 * nI z9 + (C 2 z9)) 114 (nI z9) (C 2 z9) (nI d)) ds (m2 + 1) d) := yD hD rfl
        clear hP hD hS hfr9 hz9 hk9
        have hP := hP9
        have hD := hD9
        have hS := hS9
        clear hP9 hD9 hS9
        subst hr9
        refine lv_pop hx hb dX2_postReminders_64 rfl ?_
        refine lv_iinc (v := nI (po + 1)) (lv' := [(1, .int (nI (po + 1))), (3, .int (C 2 z9)), (2, .int (nI z9)), (0, .ref h)]) hx hb dX2_postReminders_65 hl (k := 2) rfl (nI_1 po) (by decide) rfl (fun ls hl => ?_)
        refine lv_iinc (v := nI (z9 + 1)) (lv' := [(2, .int (nI (z9 + 1))), (1, .int (nI (po + 1))), (3, .int (C 2 z9)), (0, .ref h)]) hx hb dX2_postReminders_68 hl (k := 2) rfl (nI_1 z9) (by decide) rfl (fun ls hl => ?_)
        refine lv_goto (tgt := 4) hx hb dX2_postReminders_71 (by decide) ?_
        exact ih4 r9 (po + 1, z9 + 1, madd N2 m2 0 (1000 + 10 * nI z9 + (C 2 z9)) 114 (nI z9) (C 2 z9) (nI d), m2 + 1) _ _ _ (by omega) ⟨(by dsimp only; omega), (by dsimp only; omega), (by dsimp only; omega), (by rw [hv2]; apply rms_1; unfold rmst; first | exact if_pos ⟨Nat.not_le.mp c22, c30⟩ | exact if_neg (fun h9 => absurd h9.1 (Nat.not_lt.mpr c22)) | exact if_neg (fun h9 => c30 h9.2)), hP, hD, hS, lv_sub hl [0, 1, 3] rfl⟩

set_option maxHeartbeats 4000000 in
set_option maxRecDepth 100000 in
theorem c_X2_settle (l : Launch) (G : va_G) (k : Nat → ClassId) (h : Nat) (a : Nat → Nat) (c : Nat → Nat) (C : Nat → Nat → Int32) (n0 : Nat) (M : Nat → Nat → Int32) (ds : Nat) (n1 : Nat) (d : Nat) (sz : Nat) (i cc : Nat) (hND : va_D (fun _ => True) (W2 k h a c C n0 M ds n1 d)) (hi : i < 80) (hn : n0 ≤ 8) (hcc : cc < n0) (ec : M 3 i = nI cc) (hw : C 4 cc = 0 ∨ C 4 cc = 1) : Met l yX2_settle wsX2_settle ({ frames := 2, cells := 0, slots := 0, locals := 44 }) (va_Pc [.ref h, .int (nI i)] (yFs G (yT k) (W2 k h a c C n0 M ds n1 d) sz)) (va_Qi (fun (r : Int32) (_ : Unit) => r = (fin3C i cc C M).1) (fun _ τ => va_P G vwCl (W2 k h a c ((fin3C i cc C M).2) n0 M ds n1 d) τ.heap) (va_A (W2 k h a c C n0 M ds n1 d) sz)) 0 0 (va_A (W2 k h a c C n0 M ds n1 d) sz) := by
  refine Met.ofW (cc := cX2_settle) (maxL := 5) (ret := (some .boolean)) (by decide) rfl ?_
  intro p e s m args below meth c_ s₁ B hml hv
  obtain ⟨rfl, hsz, hP, hK, hE⟩ := hv
  have hx := B.exec
  have hb := B.bytes
  have hr := B.returns
  have hts := atoms_spec (ws := wsX2_settle) B.pre
  have hown : s.vm.findClass RX2 = some m.cls := findClass_of_methodNamed B.named
  have hlocks := B.notSynchronized
  have hsz0 : (8 : Nat) < 2 ^ 31 := by decide
  have hsz1 : (80 : Nat) < 2 ^ 31 := by decide
  subst hsz
  have hD := hND.self (sz := s.heap.size)
  generalize hAe : va_A (W2 k h a c C n0 M ds n1 d) s.heap.size = A at hD ⊢
  have hA : ∀ q : Nat, s.heap.size ≤ q → A q := fun q h => by rw [← hAe]; exact Or.inr h
  have hS : va_S A s.heap s.heap [] := va_S.rf
  have hND0 : va_D (fun _ => True) (W0 k a C n0) := hND.sub [1, 2, 3, 4, 5, 6, 7] (by decide) rfl
  have hND1 : va_D (fun _ => True) (W1 k c M ds n1) := hND.sub [8, 9, 10, 11, 12, 13, 14, 15, 16, 17, 18, 19] (by decide) rfl
  have hinX1 : ∀ w ∈ u_ws RX1 TX1 13, w ∈ wsX2_settle := by decide +kernel
  have hinX2 : ∀ w ∈ u_ws RX2 TX2 3, w ∈ wsX2_settle := by decide +kernel
  have fl19 := hts (.fieldLink RX2 19 "DunningDesk" "messages" "LDunningDesk$MessageBook;") (by decide +kernel)
  have fl10 := hts (.fieldLink RX2 10 "DunningDesk" "cases" "LDunningDesk$CaseBook;") (by decide +kernel)
  have hl := lv_entry [.ref h, .int (nI i)] (n := 5) (Nat.le_of_ble_eq_true rfl)
  rw [lg_entry_eq]
  generalize (lg_sl [.ref h, .int (nI i)] ++ List.replicate (5 - (lg_sl [.ref h, .int (nI i)]).length) Slot.unset).toArray = ls at hl ⊢
  have hl : lv_has ls 5 [(0, .ref h), (1, .int (nI i))] := hl
  refine lv_aload_n hx hb dX2_settle_0 rfl (lv_at hl 0 rfl) ?_
  refine va_get (D := G) (ci := 4) (v := .ref (c 0)) (C := RX2) (T := TX2) (N := 3) hx hb hts hinX2 hown hK hP 0 rfl rfl 1 (by decide) fl19 (fun _ h9 => h9) rfl dX2_settle_1 ?_
  refine va_getN (D := G) (ci := 3) (v := .ref (c 4)) (C := RX1) (T := TX1) (N := 13) (host := "DunningDesk") hx hb hts hinX1 hown hK hP 8 rfl rfl 3 (by decide) (va_Nw.use rfl (hE (.fieldLinkNest RX2 234 "DunningDesk$MessageBook" "caseNumbers" "[I" "DunningDesk") (by decide +kernel))) (fun _ h9 => h9) rfl dX2_settle_4 ?_
  refine lv_iload_n hx hb dX2_settle_7 rfl (lv_at hl 1 rfl) ?_
  refine y_iald hx hb hK hP 12 0 rfl rfl (j := i) (by omega) hsz1 dX2_settle_8 ?_
  refine lv_istore_n (lv' := [(2, .int (M 3 i)), (0, .ref h), (1, .int (nI i))]) hx hb dX2_settle_9 rfl hl (by decide) rfl (fun ls hl => ?_)
  rw [ec] at hl
  refine lv_aload_n hx hb dX2_settle_10 rfl (lv_at hl 1 rfl) ?_
  refine va_get (D := G) (ci := 4) (v := .ref (a 0)) (C := RX2) (T := TX2) (N := 3) hx hb hts hinX2 hown hK hP 0 rfl rfl 0 (by decide) fl10 (fun _ h9 => h9) rfl dX2_settle_11 ?_
  refine lv_iload_n hx hb dX2_settle_14 rfl (lv_at hl 0 rfl) ?_
  refine y_roVN (As := [.int (nI cc)]) (rest := []) ⟨hx, hb, hml, hown, hts⟩ (c_X0_contains l G k a C n0 (nI cc) (by omega)) ⟨va_cnB (host := "DunningDesk") 1 hts gX2_settle_X0_contains_n121 rfl rfl rfl (hE (.methodLinkNest RX2 121 yX0_contains "DunningDesk") (by decide +kernel)) (hts (.initialized RX0) (by decide +kernel)) (by decide +kernel) ⟨Nat.le_of_ble_eq_true rfl, Nat.le_of_ble_eq_true rfl⟩, hts (.instanceMethod yX0_contains) (by decide +kernel), hts (.selects RX0 yX0_contains yX0_contains) (by decide +kernel)⟩ hK (P20 hP) (va_recv hK (P20 hP) (ci := 2) (q0 := 0) rfl rfl) rfl hl.1 rfl (Nat.le_of_ble_eq_true rfl) dX2_settle_15 ⟨Nat.le_of_ble_eq_true rfl, Nat.le_of_ble_eq_true rfl⟩ (fun r hr9 => ?_)
  subst hr9
  refine lv_if_ne (tgt := 23) hx hb dX2_settle_18 (by decide) (fun c18 => ?_) (fun c18 => ?_)
  · skip
    refine lv_aload_n hx hb dX2_settle_23 rfl (lv_at hl 1 rfl) ?_
    refine va_get (D := G) (ci := 4) (v := .ref (c 0)) (C := RX2) (T := TX2) (N := 3) hx hb hts hinX2 hown hK hP 0 rfl rfl 1 (by decide) fl19 (fun _ h9 => h9) rfl dX2_settle_24 ?_
    refine va_getN (D := G) (ci := 3) (v := .ref (c 5)) (C := RX1) (T := TX1) (N := 13) (host := "DunningDesk") hx hb hts hinX1 hown hK hP 8 rfl rfl 4 (by decide) (va_Nw.use rfl (hE (.fieldLinkNest RX2 237 "DunningDesk$MessageBook" "contents" "[I" "DunningDesk") (by decide +kernel))) (fun _ h9 => h9) rfl dX2_settle_27 ?_
    refine lv_iload_n hx hb dX2_settle_30 rfl (lv_at hl 2 rfl) ?_
    refine y_iald hx hb hK hP 13 0 rfl rfl (j := i) (by omega) hsz1 dX2_settle_31 ?_
    refine lv_istore_n (lv' := [(3, .int (M 4 i)), (2, .int (nI cc)), (0, .ref h), (1, .int (nI i))]) hx hb dX2_settle_32 rfl hl (by decide) rfl (fun ls hl => ?_)
    refine lv_aload_n hx hb dX2_settle_33 rfl (lv_at hl 2 rfl) ?_
    refine va_get (D := G) (ci := 4) (v := .ref (c 0)) (C := RX2) (T := TX2) (N := 3) hx hb hts hinX2 hown hK hP 0 rfl rfl 1 (by decide) fl19 (fun _ h9 => h9) rfl dX2_settle_34 ?_
    refine va_getN (D := G) (ci := 3) (v := .ref (c 3)) (C := RX1) (T := TX1) (N := 13) (host := "DunningDesk") hx hb hts hinX1 hown hK hP 8 rfl rfl 2 (by decide) (va_Nw.use rfl (hE (.fieldLinkNest RX2 133 "DunningDesk$MessageBook" "kinds" "[C" "DunningDesk") (by decide +kernel))) (fun _ h9 => h9) rfl dX2_settle_37 ?_
    refine lv_iload_n hx hb dX2_settle_40 rfl (lv_at hl 3 rfl) ?_
    refine y_cald hx hb hK hP 11 2 rfl rfl (j := i) (by omega) hsz1 dX2_settle_41 ?_
    refine lv_istore (lv' := [(4, .int (M 2 i)), (3, .int (M 4 i)), (2, .int (nI cc)), (0, .ref h), (1, .int (nI i))]) hx hb dX2_settle_42 hl (by decide) rfl (fun ls hl => ?_)
    refine lv_iload hx hb dX2_settle_44 (lv_at hl 0 rfl) ?_
    refine lv_bipush (v := 112) hx hb dX2_settle_46 (by decide) ?_
    refine lv_icmp_ne (tgt := 61) hx hb dX2_settle_48 (by decide) (fun c48 => ?_) (fun c48 => ?_)
    · skip
      refine lv_iload hx hb dX2_settle_61 (lv_at hl 0 rfl) ?_
      refine lv_bipush (v := 110) hx hb dX2_settle_63 (by decide) ?_
      refine lv_icmp_ne (tgt := 77) hx hb dX2_settle_65 (by decide) (fun c65 => ?_) (fun c65 => ?_)
      · skip
        refine lv_aload_n hx hb dX2_settle_77 rfl (lv_at hl 3 rfl) ?_
        refine va_get (D := G) (ci := 4) (v := .ref (a 0)) (C := RX2) (T := TX2) (N := 3) hx hb hts hinX2 hown hK hP 0 rfl rfl 0 (by decide) fl10 (fun _ h9 => h9) rfl dX2_settle_78 ?_
        refine lv_iload_n hx hb dX2_settle_81 rfl (lv_at hl 2 rfl) ?_
        refine lv_iload_n hx hb dX2_settle_82 rfl (lv_at hl 1 rfl) ?_
        have hfr9 : ∀ q, va_A (W0 k a C n0) _ q → A q := va_free hD hS hA [1, 2, 3, 4, 5, 6, 7] rfl
        refine y_rwVN (w := W0 k a C n0) (w' := fun (_ : Unit) => W0 k a (if 0 < C 0 cc ∧ C 2 cc = (M 4 i) then w2 C 2 cc (C 2 cc + 1) else C) n0) (As := [.int (nI cc), .int (M 4 i)]) (rest := []) ⟨hx, hb, hml, hown, hts⟩ (c_X0_sendLetter l G k a C n0 _ cc (M 4 i) (yD hND0 rfl) (by omega)) ⟨va_cnB (host := "DunningDesk") 2 hts gX2_settle_X0_sendLetter_n247 rfl rfl rfl (hE (.methodLinkNest RX2 247 yX0_sendLetter "DunningDesk") (by decide +kernel)) (hts (.initialized RX0) (by decide +kernel)) (by decide +kernel) ⟨Nat.le_of_ble_eq_true rfl, Nat.le_of_ble_eq_true rfl⟩, hts (.instanceMethod yX0_sendLetter) (by decide +kernel), hts (.selects RX0 yX0_sendLetter yX0_sendLetter) (by decide +kernel)⟩ hK (P20 hP) (va_recv hK (P20 hP) (ci := 2) (q0 := 0) rfl rfl) hS hfr9 rfl hl.1 rfl (Nat.le_of_ble_eq_true rfl) dX2_settle_83 ⟨Nat.le_of_ble_eq_true rfl, Nat.le_of_ble_eq_true rfl⟩ (fun r u9 H1 locs1 hr9 hP9 hz9 hk9 hS9 => ?_)
        have hP9 : va_P G vwCl (W2 k h a c (if 0 < C 0 cc ∧ C 2 cc = (M 4 i) then w2 C 2 cc (C 2 cc + 1) else C) n0 M ds n1 d) H1 := J20 hP hD hfr9 hk9 hP9
        have hD9 : va_D A (W2 k h a c (if 0 < C 0 cc ∧ C 2 cc = (M 4 i) then w2 C 2 cc (C 2 cc + 1) else C) n0 M ds n1 d) := yD hD rfl
        clear hP hD hS hfr9 hz9 hk9
        have hP := hP9
        have hD := hD9
        have hS := hS9
        clear hP9 hD9 hS9
        subst hr9
        have hPf : va_P G vwCl (W2 k h a c ((fin3C i cc C M).2) n0 M ds n1 d) H1 := by unfold fin3C; (first | rw [if_pos c48] | rw [if_neg c48]); (try first | rw [if_pos c65] | rw [if_neg c65]); exact hP
        exact W.zret (v := (b2 (0 < C 0 cc ∧ C 2 cc = (M 4 i)))) hx hb hr (b2_n _) (fun τ hτ hW => ⟨⟨_, (), rfl, (by unfold fin3C; (first | rw [if_pos c48] | rw [if_neg c48]); (try first | rw [if_pos c65] | rw [if_neg c65])), yPt hPf hτ⟩, hS.F hτ⟩) hS.2.2 dX2_settle_86
      · skip
        refine lv_aload_n hx hb dX2_settle_68 rfl (lv_at hl 3 rfl) ?_
        refine va_get (D := G) (ci := 4) (v := .ref (a 0)) (C := RX2) (T := TX2) (N := 3) hx hb hts hinX2 hown hK hP 0 rfl rfl 0 (by decide) fl10 (fun _ h9 => h9) rfl dX2_settle_69 ?_
        refine lv_iload_n hx hb dX2_settle_72 rfl (lv_at hl 2 rfl) ?_
        have hfr9 : ∀ q, va_A (W0 k a C n0) _ q → A q := va_free hD hS hA [1, 2, 3, 4, 5, 6, 7] rfl
        refine y_rwVN (w := W0 k a C n0) (w' := fun (_ : Unit) => W0 k a (w2 C 4 cc 0) n0) (As := [.int (nI cc)]) (rest := []) ⟨hx, hb, hml, hown, hts⟩ (c_X0_endWait l G k a C n0 _ cc (yD hND0 rfl) (by omega) hw) ⟨va_cnB (host := "DunningDesk") 1 hts gX2_settle_X0_endWait_n244 rfl rfl rfl (hE (.methodLinkNest RX2 244 yX0_endWait "DunningDesk") (by decide +kernel)) (hts (.initialized RX0) (by decide +kernel)) (by decide +kernel) ⟨Nat.le_of_ble_eq_true rfl, Nat.le_of_ble_eq_true rfl⟩, hts (.instanceMethod yX0_endWait) (by decide +kernel), hts (.selects RX0 yX0_endWait yX0_endWait) (by decide +kernel)⟩ hK (P20 hP) (va_recv hK (P20 hP) (ci := 2) (q0 := 0) rfl rfl) hS hfr9 rfl hl.1 rfl (Nat.le_of_ble_eq_true rfl) dX2_settle_73 ⟨Nat.le_of_ble_eq_true rfl, Nat.le_of_ble_eq_true rfl⟩ (fun r u9 H1 locs1 hr9 hP9 hz9 hk9 hS9 => ?_)
        have hP9 : va_P G vwCl (W2 k h a c (w2 C 4 cc 0) n0 M ds n1 d) H1 := J20 hP hD hfr9 hk9 hP9
        have hD9 : va_D A (W2 k h a c (w2 C 4 cc 0) n0 M ds n1 d) := yD hD rfl
        clear hP hD hS hfr9 hz9 hk9
        have hP := hP9
        have hD := hD9
        have hS := hS9
        clear hP9 hD9 hS9
        subst hr9
        have hPf : va_P G vwCl (W2 k h a c ((fin3C i cc C M).2) n0 M ds n1 d) H1 := by unfold fin3C; (first | rw [if_pos c48] | rw [if_neg c48]); (try first | rw [if_pos c65] | rw [if_neg c65]); exact hP
        exact W.zret (v := (C 4 cc)) hx hb hr (b2_n9 hw) (fun τ hτ hW => ⟨⟨_, (), rfl, (by unfold fin3C; (first | rw [if_pos c48] | rw [if_neg c48]); (try first | rw [if_pos c65] | rw [if_neg c65])), yPt hPf hτ⟩, hS.F hτ⟩) hS.2.2 dX2_settle_76
    · skip
      refine lv_aload_n hx hb dX2_settle_51 rfl (lv_at hl 3 rfl) ?_
      refine va_get (D := G) (ci := 4) (v := .ref (a 0)) (C := RX2) (T := TX2) (N := 3) hx hb hts hinX2 hown hK hP 0 rfl rfl 0 (by decide) fl10 (fun _ h9 => h9) rfl dX2_settle_52 ?_
      refine lv_iload_n hx hb dX2_settle_55 rfl (lv_at hl 2 rfl) ?_
      refine lv_iload_n hx hb dX2_settle_56 rfl (lv_at hl 1 rfl) ?_
      have hfr9 : ∀ q, va_A (W0 k a C n0) _ q → A q := va_free hD hS hA [1, 2, 3, 4, 5, 6, 7] rfl
      refine y_rwVN (w := W0 k a C n0) (w' := fun (_ : Unit) => W0 k a (w2 C 0 cc (mx 0 (C 0 cc - (M 4 i)))) n0) (As := [.int (nI cc), .int (M 4 i)]) (rest := []) ⟨hx, hb, hml, hown, hts⟩ (c_X0_pay l G k a C n0 _ cc (M 4 i) (yD hND0 rfl) (by omega)) ⟨va_cnB (host := "DunningDesk") 2 hts gX2_settle_X0_pay_n240 rfl rfl rfl (hE (.methodLinkNest RX2 240 yX0_pay "DunningDesk") (by decide +kernel)) (hts (.initialized RX0) (by decide +kernel)) (by decide +kernel) ⟨Nat.le_of_ble_eq_true rfl, Nat.le_of_ble_eq_true rfl⟩, hts (.instanceMethod yX0_pay) (by decide +kernel), hts (.selects RX0 yX0_pay yX0_pay) (by decide +kernel)⟩ hK (P20 hP) (va_recv hK (P20 hP) (ci := 2) (q0 := 0) rfl rfl) hS hfr9 rfl hl.1 rfl (Nat.le_of_ble_eq_true rfl) dX2_settle_57 ⟨Nat.le_of_ble_eq_true rfl, Nat.le_of_ble_eq_true rfl⟩ (fun r u9 H1 locs1 hr9 hP9 hz9 hk9 hS9 => ?_)
      have hP9 : va_P G vwCl (W2 k h a c (w2 C 0 cc (mx 0 (C 0 cc - (M 4 i)))) n0 M ds n1 d) H1 := J20 hP hD hfr9 hk9 hP9
      have hD9 : va_D A (W2 k h a c (w2 C 0 cc (mx 0 (C 0 cc - (M 4 i)))) n0 M ds n1 d) := yD hD rfl
      clear hP hD hS hfr9 hz9 hk9
      have hP := hP9
      have hD := hD9
      have hS := hS9
      clear hP9 hD9 hS9
      subst hr9
      have hPf : va_P G vwCl (W2 k h a c ((fin3C i cc C M).2) n0 M ds n1 d) H1 := by unfold fin3C; (first | rw [if_pos c48] | rw [if_neg c48]); (try first | rw [if_pos c65] | rw [if_neg c65]); exact hP
      exact W.zret (v := (b2 (mx 0 (C 0 cc - (M 4 i)) ≠ C 0 cc))) hx hb hr (b2_n _) (fun τ hτ hW => ⟨⟨_, (), rfl, (by unfold fin3C; (first | rw [if_pos c48] | rw [if_neg c48]); (try first | rw [if_pos c65] | rw [if_neg c65])), yPt hPf hτ⟩, hS.F hτ⟩) hS.2.2 dX2_settle_60
  · exact absurd (inR_nI (by omega) hcc) (b2_of0 c18)

set_option maxHeartbeats 4000000 in
set_option maxRecDepth 100000 in
theorem c_X2_amount (l : Launch) (hl9 : l.stackTraces = false) (G : va_G) (k : Nat → ClassId) (h : Nat) (a : Nat → Nat) (c : Nat → Nat) (C : Nat → Nat → Int32) (n0 : Nat) (M : Nat → Nat → Int32) (ds : Nat) (n1 : Nat) (d : Nat) (x : Int32) (hn : n0 ≤ 8) : vx_Met l yX2_amount wsX2_amount ({ frames := 7, cells := 1, slots := 6, locals := 111 }) (va_Pc [.ref h, .int x] (yE G (yT k) (W2 k h a c C n0 M ds n1 d))) (vp_Si (fun r => (o_amount x C n0).1 = 0 ∧ r = (o_amount x C n0).2)) (yX (fun E => (E = "java/lang/IndexOutOfBoundsException" ∧ (o_amount x C n0).1 = 1))) 1 6 (fun _ => False) := by
  refine vx_ofW (cc := cX2_amount) (maxL := 2) (ret := (some .int)) (by decide) rfl ?_
  intro p e s m args below meth c_ s₁ B hml ht hv
  obtain ⟨rfl, hP, hK, hE⟩ := hv
  have hE : yEV0 s s.heap := hE
  have hx := B.exec
  have hb := B.bytes
  have hr := B.returns
  have hts := atoms_spec (ws := wsX2_amount) B.pre
  have hown : s.vm.findClass RX2 = some m.cls := findClass_of_methodNamed B.named
  have hlocks := B.notSynchronized
  have hsz0 : (8 : Nat) < 2 ^ 31 := by decide
  have hsz1 : (80 : Nat) < 2 ^ 31 := by decide
  have hinX0 : ∀ w ∈ u_ws RX0 TX0 7, w ∈ wsX2_amount := by decide +kernel
  have hinX2 : ∀ w ∈ u_ws RX2 TX2 3, w ∈ wsX2_amount := by decide +kernel
  have fl10 := hts (.fieldLink RX2 10 "DunningDesk" "cases" "LDunningDesk$CaseBook;") (by decide +kernel)
  have hl := lv_entry [.ref h, .int x] (n := 2) (Nat.le_of_ble_eq_true rfl)
  rw [lg_entry_eq]
  generalize (lg_sl [.ref h, .int x] ++ List.replicate (2 - (lg_sl [.ref h, .int x]).length) Slot.unset).toArray = ls at hl ⊢
  have hl : lv_has ls 2 [(0, .ref h), (1, .int x)] := hl
  refine lv_aload_n hx hb dX2_amount_0 rfl (lv_at hl 0 rfl) ?_
  refine lv_iload_n hx hb dX2_amount_1 rfl (lv_at hl 1 rfl) ?_
  refine y_xvV (As := [.int x]) (rest := []) ⟨hx, hb, hml, hown, hts⟩ (c_X2_requireCase l hl9 G k h a c C n0 M ds n1 d x (by omega)) (cwV 1 hts gX2_amount_X2_requireCase rfl rfl rfl (by decide +kernel) ⟨Nat.le_of_ble_eq_true rfl, Nat.le_of_ble_eq_true rfl⟩) hE hK hP (va_recv hK hP (ci := 4) (q0 := 0) rfl rfl) rfl hl.1 rfl (Nat.le_of_ble_eq_true rfl) dX2_amount_2 ⟨Nat.le_of_ble_eq_true rfl, Nat.le_of_ble_eq_true rfl⟩ ht hlocks (fun E h9 => ⟨h9.1, by unfold o_amount; (all_goals try first | rw [if_pos h9.2] | rw [if_neg h9.2]); (all_goals try simp only [clI (show j < 80 by omega)]); (all_goals try rfl)⟩) ⟨Nat.le_of_ble_eq_true rfl, Nat.le_of_ble_eq_true rfl⟩ (fun hr9 => ?_)
  have c2 : inR x n0 := hr9
  obtain ⟨j, hj, rfl⟩ := inR_of (by omega) c2
  refine lv_aload_n hx hb dX2_amount_5 rfl (lv_at hl 0 rfl) ?_
  refine va_get (D := G) (ci := 4) (v := .ref (a 0)) (C := RX2) (T := TX2) (N := 3) hx hb hts hinX2 hown hK hP 0 rfl rfl 0 (by decide) fl10 (fun _ h9 => h9) rfl dX2_amount_6 ?_
  refine va_getN (D := G) (ci := 2) (v := .ref (a 2)) (C := RX0) (T := TX0) (N := 7) (host := "DunningDesk") hx hb hts hinX0 hown hK hP 1 rfl rfl 1 (by decide) (va_Nw.use rfl (hE.1 (.fieldLinkNest RX2 59 "DunningDesk$CaseBook" "amounts" "[I" "DunningDesk") (by decide +kernel))) (fun _ h9 => h9) rfl dX2_amount_9 ?_
  refine lv_iload_n hx hb dX2_amount_12 rfl (lv_at hl 1 rfl) ?_
  refine y_iald hx hb hK hP 3 0 rfl rfl (j := j) (by omega) hsz0 dX2_amount_13 ?_
  refine W.widen (k := 1) (n := 6) (by decide) (by decide) ?_
  exact vx_ret (W.iret (v := (C 0 j)) hx hb hr (fun τ hτ _ => ⟨_, rfl, (by exact ⟨by unfold o_amount; (all_goals try first | rw [if_pos c2] | rw [if_neg c2]); (all_goals try simp only [clI (show j < 80 by omega)]); (all_goals try rfl), by unfold o_amount; (all_goals try first | rw [if_pos c2] | rw [if_neg c2]); (all_goals try simp only [clI (show j < 80 by omega)]); (all_goals try rfl)⟩), hτ⟩) (fun _ h9 => nomatch h9) dX2_amount_14)

set_option maxHeartbeats 4000000 in
set_option maxRecDepth 100000 in
theorem c_X2_letters (l : Launch) (hl9 : l.stackTraces = false) (G : va_G) (k : Nat → ClassId) (h : Nat) (a : Nat → Nat) (c : Nat → Nat) (C : Nat → Nat → Int32) (n0 : Nat) (M : Nat → Nat → Int32) (ds : Nat) (n1 : Nat) (d : Nat) (x : Int32) (hn : n0 ≤ 8) : vx_Met l yX2_letters wsX2_letters ({ frames := 7, cells := 1, slots := 6, locals := 111 }) (va_Pc [.ref h, .int x] (yE G (yT k) (W2 k h a c C n0 M ds n1 d))) (vp_Si (fun r => (o_letters x C n0).1 = 0 ∧ r = (o_letters x C n0).2)) (yX (fun E => (E = "java/lang/IndexOutOfBoundsException" ∧ (o_letters x C n0).1 = 1))) 1 6 (fun _ => False) := by
  refine vx_ofW (cc := cX2_letters) (maxL := 2) (ret := (some .int)) (by decide) rfl ?_
  intro p e s m args below meth c_ s₁ B hml ht hv
  obtain ⟨rfl, hP, hK, hE⟩ := hv
  have hE : yEV0 s s.heap := hE
  have hx := B.exec
  have hb := B.bytes
  have hr := B.returns
  have hts := atoms_spec (ws := wsX2_letters) B.pre
  have hown : s.vm.findClass RX2 = some m.cls := findClass_of_methodNamed B.named
  have hlocks := B.notSynchronized
  have hsz0 : (8 : Nat) < 2 ^ 31 := by decide
  have hsz1 : (80 : Nat) < 2 ^ 31 := by decide
  have hinX0 : ∀ w ∈ u_ws RX0 TX0 7, w ∈ wsX2_letters := by decide +kernel
  have hinX2 : ∀ w ∈ u_ws RX2 TX2 3, w ∈ wsX2_letters := by decide +kernel
  have fl10 := hts (.fieldLink RX2 10 "DunningDesk" "cases" "LDunningDesk$CaseBook;") (by decide +kernel)
  have hl := lv_entry [.ref h, .int x] (n := 2) (Nat.le_of_ble_eq_true rfl)
  rw [lg_entry_eq]
  generalize (lg_sl [.ref h, .int x] ++ List.replicate (2 - (lg_sl [.ref h, .int x]).length) Slot.unset).toArray = ls at hl ⊢
  have hl : lv_has ls 2 [(0, .ref h), (1, .int x)] := hl
  refine lv_aload_n hx hb dX2_letters_0 rfl (lv_at hl 0 rfl) ?_
  refine lv_iload_n hx hb dX2_letters_1 rfl (lv_at hl 1 rfl) ?_
  refine y_xvV (As := [.int x]) (rest := []) ⟨hx, hb, hml, hown, hts⟩ (c_X2_requireCase l hl9 G k h a c C n0 M ds n1 d x (by omega)) (cwV 1 hts gX2_letters_X2_requireCase rfl rfl rfl (by decide +kernel) ⟨Nat.le_of_ble_eq_true rfl, Nat.le_of_ble_eq_true rfl⟩) hE hK hP (va_recv hK hP (ci := 4) (q0 := 0) rfl rfl) rfl hl.1 rfl (Nat.le_of_ble_eq_true rfl) dX2_letters_2 ⟨Nat.le_of_ble_eq_true rfl, Nat.le_of_ble_eq_true rfl⟩ ht hlocks (fun E h9 => ⟨h9.1, by unfold o_letters; (all_goals try first | rw [if_pos h9.2] | rw [if_neg h9.2]); (all_goals try simp only [clI (show j < 80 by omega)]); (all_goals try rfl)⟩) ⟨Nat.le_of_ble_eq_true rfl, Nat.le_of_ble_eq_true rfl⟩ (fun hr9 => ?_)
  have c2 : inR x n0 := hr9
  obtain ⟨j, hj, rfl⟩ := inR_of (by omega) c2
  refine lv_aload_n hx hb dX2_letters_5 rfl (lv_at hl 0 rfl) ?_
  refine va_get (D := G) (ci := 4) (v := .ref (a 0)) (C := RX2) (T := TX2) (N := 3) hx hb hts hinX2 hown hK hP 0 rfl rfl 0 (by decide) fl10 (fun _ h9 => h9) rfl dX2_letters_6 ?_
  refine va_getN (D := G) (ci := 2) (v := .ref (a 4)) (C := RX0) (T := TX0) (N := 7) (host := "DunningDesk") hx hb hts hinX0 hown hK hP 1 rfl rfl 3 (by decide) (va_Nw.use rfl (hE.1 (.fieldLinkNest RX2 75 "DunningDesk$CaseBook" "lettersSent" "[I" "DunningDesk") (by decide +kernel))) (fun _ h9 => h9) rfl dX2_letters_9 ?_
  refine lv_iload_n hx hb dX2_letters_12 rfl (lv_at hl 1 rfl) ?_
  refine y_iald hx hb hK hP 5 0 rfl rfl (j := j) (by omega) hsz0 dX2_letters_13 ?_
  refine W.widen (k := 1) (n := 6) (by decide) (by decide) ?_
  exact vx_ret (W.iret (v := (C 2 j)) hx hb hr (fun τ hτ _ => ⟨_, rfl, (by exact ⟨by unfold o_letters; (all_goals try first | rw [if_pos c2] | rw [if_neg c2]); (all_goals try simp only [clI (show j < 80 by omega)]); (all_goals try rfl), by unfold o_letters; (all_goals try first | rw [if_pos c2] | rw [if_neg c2]); (all_goals try simp only [clI (show j < 80 by omega)]); (all_goals try rfl)⟩), hτ⟩) (fun _ h9 => nomatch h9) dX2_letters_14)

set_option maxHeartbeats 4000000 in
set_option maxRecDepth 100000 in
theorem c_X2_lettersByMessages (l : Launch) (hl9 : l.stackTraces = false) (G : va_G) (k : Nat → ClassId) (h : Nat) (a : Nat → Nat) (c : Nat → Nat) (C : Nat → Nat → Int32) (n0 : Nat) (M : Nat → Nat → Int32) (ds : Nat) (n1 : Nat) (d : Nat) (x : Int32) (hn : n0 ≤ 8) (hn1 : n1 ≤ 80) (hds : ds ≤ 80) : vx_Met l yX2_lettersByMessages wsX2_lettersByMessages ({ frames := 7, cells := 1, slots := 6, locals := 111 }) (va_Pc [.ref h, .int x] (yE G (yT k) (W2 k h a c C n0 M ds n1 d))) (vp_Si (fun r => (o_lbm x C n0 M ds n1).1 = 0 ∧ r = (o_lbm x C n0 M ds n1).2)) (yX (fun E => (E = "java/lang/IndexOutOfBoundsException" ∧ (o_lbm x C n0 M ds n1).1 = 1))) 1 6 (fun _ => False) := by
  refine vx_ofW (cc := cX2_lettersByMessages) (maxL := 2) (ret := (some .int)) (by decide) rfl ?_
  intro p e s m args below meth c_ s₁ B hml ht hv
  obtain ⟨rfl, hP, hK, hE⟩ := hv
  have hE : yEV0 s s.heap := hE
  have hx := B.exec
  have hb := B.bytes
  have hr := B.returns
  have hts := atoms_spec (ws := wsX2_lettersByMessages) B.pre
  have hown : s.vm.findClass RX2 = some m.cls := findClass_of_methodNamed B.named
  have hlocks := B.notSynchronized
  have hsz0 : (8 : Nat) < 2 ^ 31 := by decide
  have hsz1 : (80 : Nat) < 2 ^ 31 := by decide
  have hinX0 : ∀ w ∈ u_ws RX0 TX0 7, w ∈ wsX2_lettersByMessages := by decide +kernel
  have hinX2 : ∀ w ∈ u_ws RX2 TX2 3, w ∈ wsX2_lettersByMessages := by decide +kernel
  have fl19 := hts (.fieldLink RX2 19 "DunningDesk" "messages" "LDunningDesk$MessageBook;") (by decide +kernel)
  have fl10 := hts (.fieldLink RX2 10 "DunningDesk" "cases" "LDunningDesk$CaseBook;") (by decide +kernel)
  have hl := lv_entry [.ref h, .int x] (n := 2) (Nat.le_of_ble_eq_true rfl)
  rw [lg_entry_eq]
  generalize (lg_sl [.ref h, .int x] ++ List.replicate (2 - (lg_sl [.ref h, .int x]).length) Slot.unset).toArray = ls at hl ⊢
  have hl : lv_has ls 2 [(0, .ref h), (1, .int x)] := hl
  refine lv_aload_n hx hb dX2_lettersByMessages_0 rfl (lv_at hl 0 rfl) ?_
  refine lv_iload_n hx hb dX2_lettersByMessages_1 rfl (lv_at hl 1 rfl) ?_
  refine y_xvV (As := [.int x]) (rest := []) ⟨hx, hb, hml, hown, hts⟩ (c_X2_requireCase l hl9 G k h a c C n0 M ds n1 d x (by omega)) (cwV 1 hts gX2_lettersByMessages_X2_requireCase rfl rfl rfl (by decide +kernel) ⟨Nat.le_of_ble_eq_true rfl, Nat.le_of_ble_eq_true rfl⟩) hE hK hP (va_recv hK hP (ci := 4) (q0 := 0) rfl rfl) rfl hl.1 rfl (Nat.le_of_ble_eq_true rfl) dX2_lettersByMessages_2 ⟨Nat.le_of_ble_eq_true rfl, Nat.le_of_ble_eq_true rfl⟩ ht hlocks (fun E h9 => ⟨h9.1, by unfold o_lbm; (all_goals try first | rw [if_pos h9.2] | rw [if_neg h9.2]); (all_goals try simp only [clI (show j < 80 by omega)]); (all_goals try rfl)⟩) ⟨Nat.le_of_ble_eq_true rfl, Nat.le_of_ble_eq_true rfl⟩ (fun hr9 => ?_)
  have c2 : inR x n0 := hr9
  obtain ⟨j, hj, rfl⟩ := inR_of (by omega) c2
  refine lv_aload_n hx hb dX2_lettersByMessages_5 rfl (lv_at hl 0 rfl) ?_
  refine va_get (D := G) (ci := 4) (v := .ref (c 0)) (C := RX2) (T := TX2) (N := 3) hx hb hts hinX2 hown hK hP 0 rfl rfl 1 (by decide) fl19 (fun _ h9 => h9) rfl dX2_lettersByMessages_6 ?_
  refine lv_iload_n hx hb dX2_lettersByMessages_9 rfl (lv_at hl 1 rfl) ?_
  refine lv_aload_n hx hb dX2_lettersByMessages_10 rfl (lv_at hl 0 rfl) ?_
  refine va_get (D := G) (ci := 4) (v := .ref (a 0)) (C := RX2) (T := TX2) (N := 3) hx hb hts hinX2 hown hK hP 0 rfl rfl 0 (by decide) fl10 (fun _ h9 => h9) rfl dX2_lettersByMessages_11 ?_
  refine va_getN (D := G) (ci := 2) (v := .ref (a 1)) (C := RX0) (T := TX0) (N := 7) (host := "DunningDesk") hx hb hts hinX0 hown hK hP 1 rfl rfl 0 (by decide) (va_Nw.use rfl (hE.1 (.fieldLinkNest RX2 78 "DunningDesk$CaseBook" "firstAmounts" "[I" "DunningDesk") (by decide +kernel))) (fun _ h9 => h9) rfl dX2_lettersByMessages_14 ?_
  refine lv_iload_n hx hb dX2_lettersByMessages_17 rfl (lv_at hl 1 rfl) ?_
  refine y_iald hx hb hK hP 2 0 rfl rfl (j := j) (by omega) hsz0 dX2_lettersByMessages_18 ?_
  refine y_roVN (As := [.int (nI j), .int (C 5 j)]) (rest := []) ⟨hx, hb, hml, hown, hts⟩ (c_X1_lettersFrom l G k c M ds n1 (nI j) (C 5 j) (by omega) (by omega)) ⟨va_cnB (host := "DunningDesk") 2 hts gX2_lettersByMessages_X1_lettersFrom_n81 rfl rfl rfl (hE.1 (.methodLinkNest RX2 81 yX1_lettersFrom "DunningDesk") (by decide +kernel)) (hts (.initialized RX1) (by decide +kernel)) (by decide +kernel) ⟨Nat.le_of_ble_eq_true rfl, Nat.le_of_ble_eq_true rfl⟩, hts (.instanceMethod yX1_lettersFrom) (by decide +kernel), hts (.selects RX1 yX1_lettersFrom yX1_lettersFrom) (by decide +kernel)⟩ hK (P21 hP) (va_recv hK (P21 hP) (ci := 3) (q0 := 0) rfl rfl) rfl hl.1 rfl (Nat.le_of_ble_eq_true rfl) dX2_lettersByMessages_19 ⟨Nat.le_of_ble_eq_true rfl, Nat.le_of_ble_eq_true rfl⟩ (fun r hr9 => ?_)
  subst hr9
  refine W.widen (k := 1) (n := 6) (by decide) (by decide) ?_
  exact vx_ret (W.iret (v := (nI (lfr M (nI j) n1 ds 0 ((C 5 j), 0)).2)) hx hb hr (fun τ hτ _ => ⟨_, rfl, (by exact ⟨by unfold o_lbm; (all_goals try first | rw [if_pos c2] | rw [if_neg c2]); (all_goals try simp only [clI (show j < 80 by omega)]); (all_goals try rfl), by unfold o_lbm; (all_goals try first | rw [if_pos c2] | rw [if_neg c2]); (all_goals try simp only [clI (show j < 80 by omega)]); (all_goals try rfl)⟩), hτ⟩) (fun _ h9 => nomatch h9) dX2_lettersByMessages_22)

set_option maxHeartbeats 4000000 in
set_option maxRecDepth 100000 in
theorem c_X2_open (l : Launch) (hl9 : l.stackTraces = false) (G : va_G) (k : Nat → ClassId) (h : Nat) (a : Nat → Nat) (c : Nat → Nat) (C : Nat → Nat → Int32) (n0 : Nat) (M : Nat → Nat → Int32) (ds : Nat) (n1 : Nat) (d : Nat) (sz : Nat) (x due : Int32) (hND : va_D (fun _ => True) (W2 k h a c C n0 M ds n1 d)) (hn : n0 ≤ 8) (hn1 : n1 ≤ 80) : vx_Met l yX2_open wsX2_open ({ frames := 6, cells := 1, slots := 6, locals := 90 }) (va_Pc [.ref h, .int x, .int due] (yEs G (yT k) (W2 k h a c C n0 M ds n1 d) sz)) (va_Qi (fun (r : Int32) (_ : Unit) => (o_open x due C n0 M n1 d).1 = 0 ∧ r = (o_open x due C n0 M n1 d).2.1) (fun _ τ => va_P G vwCl (W2 k h a c ((o_open x due C n0 M n1 d).2.2.1) ((o_open x due C n0 M n1 d).2.2.2.2) ((o_open x due C n0 M n1 d).2.2.2.1) ds n1 d) τ.heap) (va_A (W2 k h a c C n0 M ds n1 d) sz)) (yX (fun E => (E = "java/lang/IllegalArgumentException" ∧ (o_open x due C n0 M n1 d).1 = 1) ∨ (E = "java/lang/IllegalStateException" ∧ (o_open x due C n0 M n1 d).1 = 2))) 1 6 (va_A (W2 k h a c C n0 M ds n1 d) sz) := by
  refine vx_ofW (cc := cX2_open) (maxL := 4) (ret := (some .int)) (by decide) rfl ?_
  intro p e s m args below meth c_ s₁ B hml ht hv
  obtain ⟨rfl, hsz, hP, hK, hE⟩ := hv
  have hE : yEV0 s s.heap := hE
  have hx := B.exec
  have hb := B.bytes
  have hr := B.returns
  have hts := atoms_spec (ws := wsX2_open) B.pre
  have hown : s.vm.findClass RX2 = some m.cls := findClass_of_methodNamed B.named
  have hlocks := B.notSynchronized
  have hsz0 : (8 : Nat) < 2 ^ 31 := by decide
  have hsz1 : (80 : Nat) < 2 ^ 31 := by decide
  subst hsz
  have hD := hND.self (sz := s.heap.size)
  generalize hAe : va_A (W2 k h a c C n0 M ds n1 d) s.heap.size = A at hD ⊢
  have hA : ∀ q : Nat, s.heap.size ≤ q → A q := fun q h => by rw [← hAe]; exact Or.inr h
  have hS : va_S A s.heap s.heap [] := va_S.rf
  have hND0 : va_D (fun _ => True) (W0 k a C n0) := hND.sub [1, 2, 3, 4, 5, 6, 7] (by decide) rfl
  have hND1 : va_D (fun _ => True) (W1 k c M ds n1) := hND.sub [8, 9, 10, 11, 12, 13, 14, 15, 16, 17, 18, 19] (by decide) rfl
  have hinX2 : ∀ w ∈ u_ws RX2 TX2 3, w ∈ wsX2_open := by decide +kernel
  have fl10 := hts (.fieldLink RX2 10 "DunningDesk" "cases" "LDunningDesk$CaseBook;") (by decide +kernel)
  have fl19 := hts (.fieldLink RX2 19 "DunningDesk" "messages" "LDunningDesk$MessageBook;") (by decide +kernel)
  have fl23 := hts (.fieldLink RX2 23 "DunningDesk" "today" "I") (by decide +kernel)
  have hl := lv_entry [.ref h, .int x, .int due] (n := 4) (Nat.le_of_ble_eq_true rfl)
  rw [lg_entry_eq]
  generalize (lg_sl [.ref h, .int x, .int due] ++ List.replicate (4 - (lg_sl [.ref h, .int x, .int due]).length) Slot.unset).toArray = ls at hl ⊢
  have hl : lv_has ls 4 [(0, .ref h), (1, .int x), (2, .int due)] := hl
  refine lv_iload_n hx hb dX2_open_0 rfl (lv_at hl 1 rfl) ?_
  refine lv_iconst (v := 1) hx hb dX2_open_1 (by decide) ?_
  refine lv_sipush (v := 9999) hx hb dX2_open_2 (by decide) ?_
  refine y_roS (As := [.int x, .int 1, .int 9999]) (rest := []) ⟨hx, hb, hml, hown, hts⟩ (c_X2_isWithin l x 1 9999 ) (va_cwS 3 hts gX2_open_X2_isWithin rfl rfl rfl (by decide +kernel) ⟨Nat.le_of_ble_eq_true rfl, Nat.le_of_ble_eq_true rfl⟩) rfl hl.1 rfl (Nat.le_of_ble_eq_true rfl) dX2_open_5 ⟨Nat.le_of_ble_eq_true rfl, Nat.le_of_ble_eq_true rfl⟩ (fun r hr9 => ?_)
  subst hr9
  refine lv_if_eq (tgt := 22) hx hb dX2_open_8 (by decide) (fun c8 => ?_) (fun c8 => ?_)
  · replace c8 : ¬ (rg 1 9999 x) := b2_of0 c8
    exact y_thr (rest := []) (ik := 31) (is := 33) (ic := 35) (cls := "java/lang/IllegalArgumentException") (text := "the amount or the due day is out of range") hx hb hl9 hts hE hown (by decide) (by decide +kernel) (by decide +kernel) (by decide +kernel) (by decide +kernel) yat_IAE yot_IAE (hl.1.trans hml.symm) dX2_open_22 dX2_open_25 dX2_open_26 dX2_open_28 dX2_open_31 ht ⟨Nat.le_of_ble_eq_true rfl, Nat.le_of_ble_eq_true rfl, Nat.le_of_ble_eq_true rfl, Nat.le_of_ble_eq_true rfl⟩ hlocks (by exact Or.inl (⟨rfl, by unfold o_open; (all_goals try first | rw [if_pos c8] | rw [if_neg c8]); (all_goals try simp only [clI (show j < 80 by omega)]); (all_goals try first | rw [if_pos c19] | rw [if_neg c19]); (all_goals try simp only [clI (show j < 80 by omega)]); (all_goals try rfl)⟩)) ⟨Nat.le_of_ble_eq_true rfl, Nat.le_of_ble_eq_true rfl⟩
  · replace c8 : rg 1 9999 x := b2_of1 c8
    refine lv_iload_n hx hb dX2_open_11 rfl (lv_at hl 2 rfl) ?_
    refine lv_iconst (v := 0) hx hb dX2_open_12 (by decide) ?_
    refine lv_sipush (v := 999) hx hb dX2_open_13 (by decide) ?_
    refine y_roS (As := [.int due, .int 0, .int 999]) (rest := []) ⟨hx, hb, hml, hown, hts⟩ (c_X2_isWithin l due 0 999 ) (va_cwS 3 hts gX2_open_X2_isWithin rfl rfl rfl (by decide +kernel) ⟨Nat.le_of_ble_eq_true rfl, Nat.le_of_ble_eq_true rfl⟩) rfl hl.1 rfl (Nat.le_of_ble_eq_true rfl) dX2_open_16 ⟨Nat.le_of_ble_eq_true rfl, Nat.le_of_ble_eq_true rfl⟩ (fun r hr9 => ?_)
    subst hr9
    refine lv_if_ne (tgt := 32) hx hb dX2_open_19 (by decide) (fun c19 => ?_) (fun c19 => ?_)
    · replace c19 : rg 0 999 due := b2_of1 c19
      refine lv_aload_n hx hb dX2_open_32 rfl (lv_at hl 0 rfl) ?_
      refine va_get (D := G) (ci := 4) (v := .ref (a 0)) (C := RX2) (T := TX2) (N := 3) hx hb hts hinX2 hown hK hP 0 rfl rfl 0 (by decide) fl10 (fun _ h9 => h9) rfl dX2_open_33 ?_
      refine y_roVN (As := []) (rest := []) ⟨hx, hb, hml, hown, hts⟩ (c_X0_isFull l G k a C n0  (by omega)) ⟨va_cnB (host := "DunningDesk") 0 hts gX2_open_X0_isFull_n38 rfl rfl rfl (hE.1 (.methodLinkNest RX2 38 yX0_isFull "DunningDesk") (by decide +kernel)) (hts (.initialized RX0) (by decide +kernel)) (by decide +kernel) ⟨Nat.le_of_ble_eq_true rfl, Nat.le_of_ble_eq_true rfl⟩, hts (.instanceMethod yX0_isFull) (by decide +kernel), hts (.selects RX0 yX0_isFull yX0_isFull) (by decide +kernel)⟩ hK (P20 hP) (va_recv hK (P20 hP) (ci := 2) (q0 := 0) rfl rfl) rfl hl.1 rfl (Nat.le_of_ble_eq_true rfl) dX2_open_36 ⟨Nat.le_of_ble_eq_true rfl, Nat.le_of_ble_eq_true rfl⟩ (fun r hr9 => ?_)
      subst hr9
      refine lv_if_eq (tgt := 52) hx hb dX2_open_39 (by decide) (fun c39 => ?_) (fun c39 => ?_)
      · replace c39 : ¬ n0 = 8 := fun h9 => b2_of0 c39 (by omega)
        refine lv_aload_n hx hb dX2_open_52 rfl (lv_at hl 0 rfl) ?_
        refine va_get (D := G) (ci := 4) (v := .ref (a 0)) (C := RX2) (T := TX2) (N := 3) hx hb hts hinX2 hown hK hP 0 rfl rfl 0 (by decide) fl10 (fun _ h9 => h9) rfl dX2_open_53 ?_
        refine lv_iload_n hx hb dX2_open_56 rfl (lv_at hl 1 rfl) ?_
        refine lv_iload_n hx hb dX2_open_57 rfl (lv_at hl 2 rfl) ?_
        have hfr9 : ∀ q, va_A (W0 k a C n0) _ q → A q := va_free hD hS hA [1, 2, 3, 4, 5, 6, 7] rfl
        refine y_rwVN (w := W0 k a C n0) (w' := fun (_ : Unit) => W0 k a (w2 (w2 (w2 C 5 n0 x) 0 n0 x) 1 n0 due) (n0 + 1)) (As := [.int x, .int due]) (rest := []) ⟨hx, hb, hml, hown, hts⟩ (c_X0_add l G k a C n0 _ x due (yD hND0 rfl) (by omega)) ⟨va_cnB (host := "DunningDesk") 2 hts gX2_open_X0_add_n47 rfl rfl rfl (hE.1 (.methodLinkNest RX2 47 yX0_add "DunningDesk") (by decide +kernel)) (hts (.initialized RX0) (by decide +kernel)) (by decide +kernel) ⟨Nat.le_of_ble_eq_true rfl, Nat.le_of_ble_eq_true rfl⟩, hts (.instanceMethod yX0_add) (by decide +kernel), hts (.selects RX0 yX0_add yX0_add) (by decide +kernel)⟩ hK (P20 hP) (va_recv hK (P20 hP) (ci := 2) (q0 := 0) rfl rfl) hS hfr9 rfl hl.1 rfl (Nat.le_of_ble_eq_true rfl) dX2_open_58 ⟨Nat.le_of_ble_eq_true rfl, Nat.le_of_ble_eq_true rfl⟩ (fun r u9 H1 locs1 hr9 hP9 hz9 hk9 hS9 => ?_)
        have hP9 : va_P G vwCl (W2 k h a c (w2 (w2 (w2 C 5 n0 x) 0 n0 x) 1 n0 due) (n0 + 1) M ds n1 d) H1 := J20 hP hD hfr9 hk9 hP9
        have hD9 : va_D A (W2 k h a c (w2 (w2 (w2 C 5 n0 x) 0 n0 x) 1 n0 due) (n0 + 1) M ds n1 d) := yD hD rfl
        clear hP hD hS hfr9 hz9 hk9
        have hP := hP9
        have hD := hD9
        have hS := hS9
        clear hP9 hD9 hS9
        subst hr9
        refine lv_istore_n (lv' := [(3, .int (nI n0)), (0, .ref h), (1, .int x), (2, .int due)]) hx hb dX2_open_61 rfl hl (by decide) rfl (fun ls hl => ?_)
        refine lv_aload_n hx hb dX2_open_62 rfl (lv_at hl 1 rfl) ?_
        refine va_get (D := G) (ci := 4) (v := .ref (c 0)) (C := RX2) (T := TX2) (N := 3) hx hb hts hinX2 hown hK hP 0 rfl rfl 1 (by decide) fl19 (fun _ h9 => h9) rfl dX2_open_63 ?_
        refine lv_iload_n hx hb dX2_open_66 rfl (lv_at hl 0 rfl) ?_
        refine lv_aload_n hx hb dX2_open_67 rfl (lv_at hl 1 rfl) ?_
        refine va_get (D := G) (ci := 4) (v := .int (nI d)) (C := RX2) (T := TX2) (N := 3) hx hb hts hinX2 hown hK hP 0 rfl rfl 2 (by decide) fl23 (fun _ h9 => h9) rfl dX2_open_68 ?_
        have hfr9 : ∀ q, va_A (W1 k c M ds n1) _ q → A q := va_free hD hS hA [8, 9, 10, 11, 12, 13, 14, 15, 16, 17, 18, 19] rfl
        refine y_rvVN (w := W1 k c M ds n1) (w' := fun (_ : Unit) => W1 k c (rel (nI n0) (nI d) n1 0 M) ds n1) (As := [.int (nI n0), .int (nI d)]) (rest := []) ⟨hx, hb, hml, hown, hts⟩ (c_X1_release l G k c M ds n1 _ (nI n0) (nI d) (yD hND1 rfl) (by omega)) ⟨va_cnB (host := "DunningDesk") 2 hts gX2_open_X1_release_n51 rfl rfl rfl (hE.1 (.methodLinkNest RX2 51 yX1_release "DunningDesk") (by decide +kernel)) (hts (.initialized RX1) (by decide +kernel)) (by decide +kernel) ⟨Nat.le_of_ble_eq_true rfl, Nat.le_of_ble_eq_true rfl⟩, hts (.instanceMethod yX1_release) (by decide +kernel), hts (.selects RX1 yX1_release yX1_release) (by decide +kernel)⟩ hK (P21 hP) (va_recv hK (P21 hP) (ci := 3) (q0 := 0) rfl rfl) hS hfr9 rfl hl.1 rfl (Nat.le_of_ble_eq_true rfl) dX2_open_71 ⟨Nat.le_of_ble_eq_true rfl, Nat.le_of_ble_eq_true rfl⟩ (fun u9 H1 locs1 hr9 hP9 hz9 hk9 hS9 => ?_)
        have hP9 : va_P G vwCl (W2 k h a c (w2 (w2 (w2 C 5 n0 x) 0 n0 x) 1 n0 due) (n0 + 1) (rel (nI n0) (nI d) n1 0 M) ds n1 d) H1 := J21 hP hD hfr9 hk9 hP9
        have hD9 : va_D A (W2 k h a c (w2 (w2 (w2 C 5 n0 x) 0 n0 x) 1 n0 due) (n0 + 1) (rel (nI n0) (nI d) n1 0 M) ds n1 d) := yD hD rfl
        clear hP hD hS hfr9 hz9 hk9
        have hP := hP9
        have hD := hD9
        have hS := hS9
        clear hP9 hD9 hS9
        refine lv_iload_n hx hb dX2_open_74 rfl (lv_at hl 0 rfl) ?_
        refine W.widen (k := 1) (n := 6) (by decide) (by decide) ?_
        have hPf : va_P G vwCl (W2 k h a c ((o_open x due C n0 M n1 d).2.2.1) ((o_open x due C n0 M n1 d).2.2.2.2) ((o_open x due C n0 M n1 d).2.2.2.1) ds n1 d) H1 := by unfold o_open; (all_goals try first | rw [if_pos c8] | rw [if_neg c8]); (all_goals try simp only [clI (show j < 80 by omega)]); (all_goals try first | rw [if_pos c19] | rw [if_neg c19]); (all_goals try simp only [clI (show j < 80 by omega)]); (all_goals try first | rw [if_pos c39] | rw [if_neg c39]); (all_goals try simp only [clI (show j < 80 by omega)]); exact hP
        exact vx_ret (W.iret (v := (nI n0)) hx hb hr (fun τ hτ hW => ⟨⟨_, (), rfl, (by exact ⟨by unfold o_open; (all_goals try first | rw [if_pos c8] | rw [if_neg c8]); (all_goals try simp only [clI (show j < 80 by omega)]); (all_goals try first | rw [if_pos c19] | rw [if_neg c19]); (all_goals try simp only [clI (show j < 80 by omega)]); (all_goals try first | rw [if_pos c39] | rw [if_neg c39]); (all_goals try simp only [clI (show j < 80 by omega)]); (all_goals try rfl), by unfold o_open; (all_goals try first | rw [if_pos c8] | rw [if_neg c8]); (all_goals try simp only [clI (show j < 80 by omega)]); (all_goals try first | rw [if_pos c19] | rw [if_neg c19]); (all_goals try simp only [clI (show j < 80 by omega)]); (all_goals try first | rw [if_pos c39] | rw [if_neg c39]); (all_goals try simp only [clI (show j < 80 by omega)]); (all_goals try rfl)⟩), yPt hPf hτ⟩, hS.F hτ⟩) hS.2.2 dX2_open_75)
      · replace c39 : n0 = 8 := by have := b2_of1 c39; omega
        exact y_thr (rest := []) (ik := 42) (is := 44) (ic := 46) (cls := "java/lang/IllegalStateException") (text := "there are 8 cases") hx hb hl9 hts hE hown (by decide) (by decide +kernel) (by decide +kernel) (by decide +kernel) (by decide +kernel) yat_ISE yot_ISE (hl.1.trans hml.symm) dX2_open_42 dX2_open_45 dX2_open_46 dX2_open_48 dX2_open_51 ht ⟨Nat.le_of_ble_eq_true rfl, Nat.le_of_ble_eq_true rfl, Nat.le_of_ble_eq_true rfl, Nat.le_of_ble_eq_true rfl⟩ hlocks (by exact Or.inr (⟨rfl, by unfold o_open; (all_goals try first | rw [if_pos c8] | rw [if_neg c8]); (all_goals try simp only [clI (show j < 80 by omega)]); (all_goals try first | rw [if_pos c19] | rw [if_neg c19]); (all_goals try simp only [clI (show j < 80 by omega)]); (all_goals try first | rw [if_pos c39] | rw [if_neg c39]); (all_goals try simp only [clI (show j < 80 by omega)]); (all_goals try rfl)⟩)) ⟨Nat.le_of_ble_eq_true rfl, Nat.le_of_ble_eq_true rfl⟩
    · replace c19 : ¬ (rg 0 999 due) := b2_of0 c19
      exact y_thr (rest := []) (ik := 31) (is := 33) (ic := 35) (cls := "java/lang/IllegalArgumentException") (text := "the amount or the due day is out of range") hx hb hl9 hts hE hown (by decide) (by decide +kernel) (by decide +kernel) (by decide +kernel) (by decide +kernel) yat_IAE yot_IAE (hl.1.trans hml.symm) dX2_open_22 dX2_open_25 dX2_open_26 dX2_open_28 dX2_open_31 ht ⟨Nat.le_of_ble_eq_true rfl, Nat.le_of_ble_eq_true rfl, Nat.le_of_ble_eq_true rfl, Nat.le_of_ble_eq_true rfl⟩ hlocks (by exact Or.inl (⟨rfl, by unfold o_open; (all_goals try first | rw [if_pos c8] | rw [if_neg c8]); (all_goals try simp only [clI (show j < 80 by omega)]); (all_goals try first | rw [if_pos c19] | rw [if_neg c19]); (all_goals try simp only [clI (show j < 80 by omega)]); (all_goals try rfl)⟩)) ⟨Nat.le_of_ble_eq_true rfl, Nat.le_of_ble_eq_true rfl⟩

set_option maxHeartbeats 4000000 in
set_option maxRecDepth 100000 in
theorem c_X2_pause (l : Launch) (hl9 : l.stackTraces = false) (G : va_G) (k : Nat → ClassId) (h : Nat) (a : Nat → Nat) (c : Nat → Nat) (C : Nat → Nat → Int32) (n0 : Nat) (M : Nat → Nat → Int32) (ds : Nat) (n1 : Nat) (d : Nat) (sz : Nat) (x dd : Int32) (hND : va_D (fun _ => True) (W2 k h a c C n0 M ds n1 d)) (hn : n0 ≤ 8) (hC : ∀ z, z < n0 → 0 ≤ C 0 z) : vx_Met l yX2_pause wsX2_pause ({ frames := 7, cells := 3, slots := 18, locals := 111 }) (va_Pc [.ref h, .int x, .int dd] (yEs G (yT k) (W2 k h a c C n0 M ds n1 d) sz)) (va_Qi (fun (r : Int32) (_ : Unit) => (o_pause x dd C n0 d).1 = 0 ∧ r = (o_pause x dd C n0 d).2.1) (fun _ τ => va_P G vwCl (W2 k h a c ((o_pause x dd C n0 d).2.2) n0 M ds n1 d) τ.heap) (va_A (W2 k h a c C n0 M ds n1 d) sz)) (yX (fun E => (E = "java/lang/IndexOutOfBoundsException" ∧ (o_pause x dd C n0 d).1 = 1) ∨ (E = "java/lang/IllegalArgumentException" ∧ (o_pause x dd C n0 d).1 = 2) ∨ (E = "java/lang/IllegalStateException" ∧ (o_pause x dd C n0 d).1 = 3))) 3 18 (va_A (W2 k h a c C n0 M ds n1 d) sz) := by
  refine vx_ofW (cc := cX2_pause) (maxL := 3) (ret := (some .int)) (by decide) rfl ?_
  intro p e s m args below meth c_ s₁ B hml ht hv
  obtain ⟨rfl, hsz, hP, hK, hE⟩ := hv
  have hE : yEV0 s s.heap := hE
  have hx := B.exec
  have hb := B.bytes
  have hr := B.returns
  have hts := atoms_spec (ws := wsX2_pause) B.pre
  have hown : s.vm.findClass RX2 = some m.cls := findClass_of_methodNamed B.named
  have hlocks := B.notSynchronized
  have hsz0 : (8 : Nat) < 2 ^ 31 := by decide
  have hsz1 : (80 : Nat) < 2 ^ 31 := by decide
  subst hsz
  have hD := hND.self (sz := s.heap.size)
  generalize hAe : va_A (W2 k h a c C n0 M ds n1 d) s.heap.size = A at hD ⊢
  have hA : ∀ q : Nat, s.heap.size ≤ q → A q := fun q h => by rw [← hAe]; exact Or.inr h
  have hS : va_S A s.heap s.heap [] := va_S.rf
  have hND0 : va_D (fun _ => True) (W0 k a C n0) := hND.sub [1, 2, 3, 4, 5, 6, 7] (by decide) rfl
  have hND1 : va_D (fun _ => True) (W1 k c M ds n1) := hND.sub [8, 9, 10, 11, 12, 13, 14, 15, 16, 17, 18, 19] (by decide) rfl
  have hinX2 : ∀ w ∈ u_ws RX2 TX2 3, w ∈ wsX2_pause := by decide +kernel
  have fl10 := hts (.fieldLink RX2 10 "DunningDesk" "cases" "LDunningDesk$CaseBook;") (by decide +kernel)
  have fl23 := hts (.fieldLink RX2 23 "DunningDesk" "today" "I") (by decide +kernel)
  have hl := lv_entry [.ref h, .int x, .int dd] (n := 3) (Nat.le_of_ble_eq_true rfl)
  rw [lg_entry_eq]
  generalize (lg_sl [.ref h, .int x, .int dd] ++ List.replicate (3 - (lg_sl [.ref h, .int x, .int dd]).length) Slot.unset).toArray = ls at hl ⊢
  have hl : lv_has ls 3 [(0, .ref h), (1, .int x), (2, .int dd)] := hl
  refine lv_aload_n hx hb dX2_pause_0 rfl (lv_at hl 0 rfl) ?_
  refine lv_iload_n hx hb dX2_pause_1 rfl (lv_at hl 1 rfl) ?_
  refine y_xvV (As := [.int x]) (rest := []) ⟨hx, hb, hml, hown, hts⟩ (c_X2_requireCase l hl9 G k h a c C n0 M ds n1 d x (by omega)) (cwV 1 hts gX2_pause_X2_requireCase rfl rfl rfl (by decide +kernel) ⟨Nat.le_of_ble_eq_true rfl, Nat.le_of_ble_eq_true rfl⟩) hE hK hP (va_recv hK hP (ci := 4) (q0 := 0) rfl rfl) rfl hl.1 rfl (Nat.le_of_ble_eq_true rfl) dX2_pause_2 ⟨Nat.le_of_ble_eq_true rfl, Nat.le_of_ble_eq_true rfl⟩ ht hlocks (fun E h9 => Or.inl (⟨h9.1, by unfold o_pause; (all_goals try first | rw [if_pos h9.2] | rw [if_neg h9.2]); (all_goals try simp only [clI (show j < 80 by omega)]); (all_goals try rfl)⟩)) ⟨Nat.le_of_ble_eq_true rfl, Nat.le_of_ble_eq_true rfl⟩ (fun hr9 => ?_)
  have c2 : inR x n0 := hr9
  obtain ⟨j, hj, rfl⟩ := inR_of (by omega) c2
  refine lv_iload_n hx hb dX2_pause_5 rfl (lv_at hl 2 rfl) ?_
  refine lv_iconst (v := 1) hx hb dX2_pause_6 (by decide) ?_
  refine lv_bipush (v := 60) hx hb dX2_pause_7 (by decide) ?_
  refine y_roS (As := [.int dd, .int 1, .int 60]) (rest := []) ⟨hx, hb, hml, hown, hts⟩ (c_X2_isWithin l dd 1 60 ) (va_cwS 3 hts gX2_pause_X2_isWithin rfl rfl rfl (by decide +kernel) ⟨Nat.le_of_ble_eq_true rfl, Nat.le_of_ble_eq_true rfl⟩) rfl hl.1 rfl (Nat.le_of_ble_eq_true rfl) dX2_pause_9 ⟨Nat.le_of_ble_eq_true rfl, Nat.le_of_ble_eq_true rfl⟩ (fun r hr9 => ?_)
  subst hr9
  refine lv_if_ne (tgt := 25) hx hb dX2_pause_12 (by decide) (fun c12 => ?_) (fun c12 => ?_)
  · replace c12 : rg 1 60 dd := b2_of1 c12
    refine lv_aload_n hx hb dX2_pause_25 rfl (lv_at hl 0 rfl) ?_
    refine lv_iload_n hx hb dX2_pause_26 rfl (lv_at hl 1 rfl) ?_
    refine y_xvV (As := [.int (nI j)]) (rest := []) ⟨hx, hb, hml, hown, hts⟩ (c_X2_requireOpen l hl9 G k h a c C n0 M ds n1 d j (by omega)) (cwV 1 hts gX2_pause_X2_requireOpen rfl rfl rfl (by decide +kernel) ⟨Nat.le_of_ble_eq_true rfl, Nat.le_of_ble_eq_true rfl⟩) hE hK hP (va_recv hK hP (ci := 4) (q0 := 0) rfl rfl) rfl hl.1 rfl (Nat.le_of_ble_eq_true rfl) dX2_pause_27 ⟨Nat.le_of_ble_eq_true rfl, Nat.le_of_ble_eq_true rfl⟩ ht hlocks (fun E h9 => Or.inr (Or.inr (⟨h9.1, by unfold o_pause; (all_goals try first | rw [if_pos c2] | rw [if_neg c2]); (all_goals try simp only [clI (show j < 80 by omega)]); (all_goals try first | rw [if_pos c12] | rw [if_neg c12]); (all_goals try simp only [clI (show j < 80 by omega)]); (all_goals try first | rw [if_pos (y_0 (hC j hj) h9.2)] | rw [if_neg (y_0 (hC j hj) h9.2)]); (all_goals try simp only [clI (show j < 80 by omega)]); (all_goals try rfl)⟩))) ⟨Nat.le_of_ble_eq_true rfl, Nat.le_of_ble_eq_true rfl⟩ (fun hr9 => ?_)
    have c27 : ¬ C 0 j = 0 := fun h9 => absurd (h9 ▸ hr9 : (0 : Int32) < 0) (by decide)
    refine lv_aload_n hx hb dX2_pause_30 rfl (lv_at hl 0 rfl) ?_
    refine va_get (D := G) (ci := 4) (v := .ref (a 0)) (C := RX2) (T := TX2) (N := 3) hx hb hts hinX2 hown hK hP 0 rfl rfl 0 (by decide) fl10 (fun _ h9 => h9) rfl dX2_pause_31 ?_
    refine lv_iload_n hx hb dX2_pause_34 rfl (lv_at hl 1 rfl) ?_
    refine lv_aload_n hx hb dX2_pause_35 rfl (lv_at hl 0 rfl) ?_
    refine va_get (D := G) (ci := 4) (v := .int (nI d)) (C := RX2) (T := TX2) (N := 3) hx hb hts hinX2 hown hK hP 0 rfl rfl 2 (by decide) fl23 (fun _ h9 => h9) rfl dX2_pause_36 ?_
    refine lv_iload_n hx hb dX2_pause_39 rfl (lv_at hl 2 rfl) ?_
    refine lv_iadd hx hb dX2_pause_40 ?_
    have hfr9 : ∀ q, va_A (W0 k a C n0) _ q → A q := va_free hD hS hA [1, 2, 3, 4, 5, 6, 7] rfl
    refine y_rwVN (w := W0 k a C n0) (w' := fun (_ : Unit) => W0 k a (w2 C 3 j (mx (C 3 j) ((nI d) + dd))) n0) (As := [.int (nI j), .int ((nI d) + dd)]) (rest := []) ⟨hx, hb, hml, hown, hts⟩ (c_X0_pauseUntil l G k a C n0 _ j ((nI d) + dd) (yD hND0 rfl) (by omega)) ⟨va_cnB (host := "DunningDesk") 2 hts gX2_pause_X0_pauseUntil_n68 rfl rfl rfl (hE.1 (.methodLinkNest RX2 68 yX0_pauseUntil "DunningDesk") (by decide +kernel)) (hts (.initialized RX0) (by decide +kernel)) (by decide +kernel) ⟨Nat.le_of_ble_eq_true rfl, Nat.le_of_ble_eq_true rfl⟩, hts (.instanceMethod yX0_pauseUntil) (by decide +kernel), hts (.selects RX0 yX0_pauseUntil yX0_pauseUntil) (by decide +kernel)⟩ hK (P20 hP) (va_recv hK (P20 hP) (ci := 2) (q0 := 0) rfl rfl) hS hfr9 rfl hl.1 rfl (Nat.le_of_ble_eq_true rfl) dX2_pause_41 ⟨Nat.le_of_ble_eq_true rfl, Nat.le_of_ble_eq_true rfl⟩ (fun r u9 H1 locs1 hr9 hP9 hz9 hk9 hS9 => ?_)
    have hP9 : va_P G vwCl (W2 k h a c (w2 C 3 j (mx (C 3 j) ((nI d) + dd))) n0 M ds n1 d) H1 := J20 hP hD hfr9 hk9 hP9
    have hD9 : va_D A (W2 k h a c (w2 C 3 j (mx (C 3 j) ((nI d) + dd))) n0 M ds n1 d) := yD hD rfl
    clear hP hD hS hfr9 hz9 hk9
    have hP := hP9
    have hD := hD9
    have hS := hS9
    clear hP9 hD9 hS9
    subst hr9
    refine W.widen (k := 3) (n := 18) (by decide) (by decide) ?_
    have hPf : va_P G vwCl (W2 k h a c ((o_pause (nI j) dd C n0 d).2.2) n0 M ds n1 d) H1 := by unfold o_pause; (all_goals try first | rw [if_pos c2] | rw [if_neg c2]); (all_goals try simp only [clI (show j < 80 by omega)]); (all_goals try first | rw [if_pos c12] | rw [if_neg c12]); (all_goals try simp only [clI (show j < 80 by omega)]); (all_goals try first | rw [if_pos c27] | rw [if_neg c27]); (all_goals try simp only [clI (show j < 80 by omega)]); exact hP
    exact vx_ret (W.iret (v := (mx (C 3 j) ((nI d) + dd))) hx hb hr (fun τ hτ hW => ⟨⟨_, (), rfl, (by exact ⟨by unfold o_pause; (all_goals try first | rw [if_pos c2] | rw [if_neg c2]); (all_goals try simp only [clI (show j < 80 by omega)]); (all_goals try first | rw [if_pos c12] | rw [if_neg c12]); (all_goals try simp only [clI (show j < 80 by omega)]); (all_goals try first | rw [if_pos c27] | rw [if_neg c27]); (all_goals try simp only [clI (show j < 80 by omega)]); (all_goals try rfl), by unfold o_pause; (all_goals try first | rw [if_pos c2] | rw [if_neg c2]); (all_goals try simp only [clI (show j < 80 by omega)]); (all_goals try first | rw [if_pos c12] | rw [if_neg c12]); (all_goals try simp only [clI (show j < 80 by omega)]); (all_goals try first | rw [if_pos c27] | rw [if_neg c27]); (all_goals try simp only [clI (show j < 80 by omega)]); (all_goals try rfl)⟩), yPt hPf hτ⟩, hS.F hτ⟩) hS.2.2 dX2_pause_44)
  · replace c12 : ¬ (rg 1 60 dd) := b2_of0 c12
    exact y_thr (rest := []) (ik := 31) (is := 63) (ic := 35) (cls := "java/lang/IllegalArgumentException") (text := "the number of days is out of range") hx hb hl9 hts hE hown (by decide) (by decide +kernel) (by decide +kernel) (by decide +kernel) (by decide +kernel) yat_IAE yot_IAE (hl.1.trans hml.symm) dX2_pause_15 dX2_pause_18 dX2_pause_19 dX2_pause_21 dX2_pause_24 ht ⟨Nat.le_of_ble_eq_true rfl, Nat.le_of_ble_eq_true rfl, Nat.le_of_ble_eq_true rfl, Nat.le_of_ble_eq_true rfl⟩ hlocks (by exact Or.inr (Or.inl (⟨rfl, by unfold o_pause; (all_goals try first | rw [if_pos c2] | rw [if_neg c2]); (all_goals try simp only [clI (show j < 80 by omega)]); (all_goals try first | rw [if_pos c12] | rw [if_neg c12]); (all_goals try simp only [clI (show j < 80 by omega)]); (all_goals try rfl)⟩))) ⟨Nat.le_of_ble_eq_true rfl, Nat.le_of_ble_eq_true rfl⟩

set_option maxHeartbeats 4000000 in
set_option maxRecDepth 100000 in
theorem c_X2_awaitNote (l : Launch) (hl9 : l.stackTraces = false) (G : va_G) (k : Nat → ClassId) (h : Nat) (a : Nat → Nat) (c : Nat → Nat) (C : Nat → Nat → Int32) (n0 : Nat) (M : Nat → Nat → Int32) (ds : Nat) (n1 : Nat) (d : Nat) (sz : Nat) (x : Int32) (hND : va_D (fun _ => True) (W2 k h a c C n0 M ds n1 d)) (hn : n0 ≤ 8) (hC : ∀ z, z < n0 → 0 ≤ C 0 z) (hw : ∀ z, z < n0 → C 4 z = 0 ∨ C 4 z = 1) : vx_Met l yX2_awaitNote wsX2_awaitNote ({ frames := 7, cells := 2, slots := 12, locals := 111 }) (va_Pc [.ref h, .int x] (yEs G (yT k) (W2 k h a c C n0 M ds n1 d) sz)) (va_Qi (fun (r : Int32) (_ : Unit) => (o_awaitNote x C n0).1 = 0 ∧ r = (o_awaitNote x C n0).2.1) (fun _ τ => va_P G vwCl (W2 k h a c ((o_awaitNote x C n0).2.2) n0 M ds n1 d) τ.heap) (va_A (W2 k h a c C n0 M ds n1 d) sz)) (yX (fun E => (E = "java/lang/IndexOutOfBoundsException" ∧ (o_awaitNote x C n0).1 = 1) ∨ (E = "java/lang/IllegalStateException" ∧ (o_awaitNote x C n0).1 = 2))) 2 12 (va_A (W2 k h a c C n0 M ds n1 d) sz) := by
  refine vx_ofW (cc := cX2_awaitNote) (maxL := 3) (ret := (some .boolean)) (by decide) rfl ?_
  intro p e s m args below meth c_ s₁ B hml ht hv
  obtain ⟨rfl, hsz, hP, hK, hE⟩ := hv
  have hE : yEV0 s s.heap := hE
  have hx := B.exec
  have hb := B.bytes
  have hr := B.returns
  have hts := atoms_spec (ws := wsX2_awaitNote) B.pre
  have hown : s.vm.findClass RX2 = some m.cls := findClass_of_methodNamed B.named
  have hlocks := B.notSynchronized
  have hsz0 : (8 : Nat) < 2 ^ 31 := by decide
  have hsz1 : (80 : Nat) < 2 ^ 31 := by decide
  subst hsz
  have hD := hND.self (sz := s.heap.size)
  generalize hAe : va_A (W2 k h a c C n0 M ds n1 d) s.heap.size = A at hD ⊢
  have hA : ∀ q : Nat, s.heap.size ≤ q → A q := fun q h => by rw [← hAe]; exact Or.inr h
  have hS : va_S A s.heap s.heap [] := va_S.rf
  have hND0 : va_D (fun _ => True) (W0 k a C n0) := hND.sub [1, 2, 3, 4, 5, 6, 7] (by decide) rfl
  have hND1 : va_D (fun _ => True) (W1 k c M ds n1) := hND.sub [8, 9, 10, 11, 12, 13, 14, 15, 16, 17, 18, 19] (by decide) rfl
  have hinX0 : ∀ w ∈ u_ws RX0 TX0 7, w ∈ wsX2_awaitNote := by decide +kernel
  have hinX2 : ∀ w ∈ u_ws RX2 TX2 3, w ∈ wsX2_awaitNote := by decide +kernel
  have fl10 := hts (.fieldLink RX2 10 "DunningDesk" "cases" "LDunningDesk$CaseBook;") (by decide +kernel)
  have hl := lv_entry [.ref h, .int x] (n := 3) (Nat.le_of_ble_eq_true rfl)
  rw [lg_entry_eq]
  generalize (lg_sl [.ref h, .int x] ++ List.replicate (3 - (lg_sl [.ref h, .int x]).length) Slot.unset).toArray = ls at hl ⊢
  have hl : lv_has ls 3 [(0, .ref h), (1, .int x)] := hl
  refine lv_aload_n hx hb dX2_awaitNote_0 rfl (lv_at hl 0 rfl) ?_
  refine lv_iload_n hx hb dX2_awaitNote_1 rfl (lv_at hl 1 rfl) ?_
  refine y_xvV (As := [.int x]) (rest := []) ⟨hx, hb, hml, hown, hts⟩ (c_X2_requireCase l hl9 G k h a c C n0 M ds n1 d x (by omega)) (cwV 1 hts gX2_awaitNote_X2_requireCase rfl rfl rfl (by decide +kernel) ⟨Nat.le_of_ble_eq_true rfl, Nat.le_of_ble_eq_true rfl⟩) hE hK hP (va_recv hK hP (ci := 4) (q0 := 0) rfl rfl) rfl hl.1 rfl (Nat.le_of_ble_eq_true rfl) dX2_awaitNote_2 ⟨Nat.le_of_ble_eq_true rfl, Nat.le_of_ble_eq_true rfl⟩ ht hlocks (fun E h9 => Or.inl (⟨h9.1, by unfold o_awaitNote; (all_goals try first | rw [if_pos h9.2] | rw [if_neg h9.2]); (all_goals try simp only [clI (show j < 80 by omega)]); (all_goals try rfl)⟩)) ⟨Nat.le_of_ble_eq_true rfl, Nat.le_of_ble_eq_true rfl⟩ (fun hr9 => ?_)
  have c2 : inR x n0 := hr9
  obtain ⟨j, hj, rfl⟩ := inR_of (by omega) c2
  refine lv_aload_n hx hb dX2_awaitNote_5 rfl (lv_at hl 0 rfl) ?_
  refine lv_iload_n hx hb dX2_awaitNote_6 rfl (lv_at hl 1 rfl) ?_
  refine y_xvV (As := [.int (nI j)]) (rest := []) ⟨hx, hb, hml, hown, hts⟩ (c_X2_requireOpen l hl9 G k h a c C n0 M ds n1 d j (by omega)) (cwV 1 hts gX2_awaitNote_X2_requireOpen rfl rfl rfl (by decide +kernel) ⟨Nat.le_of_ble_eq_true rfl, Nat.le_of_ble_eq_true rfl⟩) hE hK hP (va_recv hK hP (ci := 4) (q0 := 0) rfl rfl) rfl hl.1 rfl (Nat.le_of_ble_eq_true rfl) dX2_awaitNote_7 ⟨Nat.le_of_ble_eq_true rfl, Nat.le_of_ble_eq_true rfl⟩ ht hlocks (fun E h9 => Or.inr (⟨h9.1, by unfold o_awaitNote; (all_goals try first | rw [if_pos c2] | rw [if_neg c2]); (all_goals try simp only [clI (show j < 80 by omega)]); (all_goals try first | rw [if_pos (y_0 (hC j hj) h9.2)] | rw [if_neg (y_0 (hC j hj) h9.2)]); (all_goals try simp only [clI (show j < 80 by omega)]); (all_goals try rfl)⟩)) ⟨Nat.le_of_ble_eq_true rfl, Nat.le_of_ble_eq_true rfl⟩ (fun hr9 => ?_)
  have c7 : ¬ C 0 j = 0 := fun h9 => absurd (h9 ▸ hr9 : (0 : Int32) < 0) (by decide)
  refine lv_aload_n hx hb dX2_awaitNote_10 rfl (lv_at hl 0 rfl) ?_
  refine va_get (D := G) (ci := 4) (v := .ref (a 0)) (C := RX2) (T := TX2) (N := 3) hx hb hts hinX2 hown hK hP 0 rfl rfl 0 (by decide) fl10 (fun _ h9 => h9) rfl dX2_awaitNote_11 ?_
  refine va_getN (D := G) (ci := 2) (v := .ref (a 6)) (C := RX0) (T := TX0) (N := 7) (host := "DunningDesk") hx hb hts hinX0 hown hK hP 1 rfl rfl 5 (by decide) (va_Nw.use rfl (hE.1 (.fieldLinkNest RX2 71 "DunningDesk$CaseBook" "awaitsNote" "[Z" "DunningDesk") (by decide +kernel))) (fun _ h9 => h9) rfl dX2_awaitNote_14 ?_
  refine lv_iload_n hx hb dX2_awaitNote_17 rfl (lv_at hl 1 rfl) ?_
  refine y_zald hx hb hK hP 7 1 rfl rfl (j := j) (by omega) hsz0 dX2_awaitNote_18 ?_
  refine lv_istore_n (lv' := [(2, .int (C 4 j)), (0, .ref h), (1, .int (nI j))]) hx hb dX2_awaitNote_19 rfl hl (by decide) rfl (fun ls hl => ?_)
  refine lv_aload_n hx hb dX2_awaitNote_20 rfl (lv_at hl 1 rfl) ?_
  refine va_get (D := G) (ci := 4) (v := .ref (a 0)) (C := RX2) (T := TX2) (N := 3) hx hb hts hinX2 hown hK hP 0 rfl rfl 0 (by decide) fl10 (fun _ h9 => h9) rfl dX2_awaitNote_21 ?_
  refine va_getN (D := G) (ci := 2) (v := .ref (a 6)) (C := RX0) (T := TX0) (N := 7) (host := "DunningDesk") hx hb hts hinX0 hown hK hP 1 rfl rfl 5 (by decide) (va_Nw.use rfl (hE.1 (.fieldLinkNest RX2 71 "DunningDesk$CaseBook" "awaitsNote" "[Z" "DunningDesk") (by decide +kernel))) (fun _ h9 => h9) rfl dX2_awaitNote_24 ?_
  refine lv_iload_n hx hb dX2_awaitNote_27 rfl (lv_at hl 2 rfl) ?_
  refine lv_iconst (v := 1) hx hb dX2_awaitNote_28 (by decide) ?_
  refine y_zast (ws' := W2 k h a c (w2 C 4 j 1) n0 M ds n1 d) (j := j) (x := 1) hx hb hK hP hD hS 7 1 rfl rfl (by omega) hsz0 (by decide) rfl dX2_awaitNote_29 (fun H locs hP hD hS => ?_)
  refine lv_iload_n hx hb dX2_awaitNote_30 rfl (lv_at hl 0 rfl) ?_
  refine W.widen (k := 2) (n := 12) (by decide) (by decide) ?_
  have hPf : va_P G vwCl (W2 k h a c ((o_awaitNote (nI j) C n0).2.2) n0 M ds n1 d) H := by unfold o_awaitNote; (all_goals try first | rw [if_pos c2] | rw [if_neg c2]); (all_goals try simp only [clI (show j < 80 by omega)]); (all_goals try first | rw [if_pos c7] | rw [if_neg c7]); (all_goals try simp only [clI (show j < 80 by omega)]); exact hP
  exact vx_ret (W.zret (v := (C 4 j)) hx hb hr (b2_n9 (hw j hj)) (fun τ hτ hW => ⟨⟨_, (), rfl, (by exact ⟨by unfold o_awaitNote; (all_goals try first | rw [if_pos c2] | rw [if_neg c2]); (all_goals try simp only [clI (show j < 80 by omega)]); (all_goals try first | rw [if_pos c7] | rw [if_neg c7]); (all_goals try simp only [clI (show j < 80 by omega)]); (all_goals try rfl), by unfold o_awaitNote; (all_goals try first | rw [if_pos c2] | rw [if_neg c2]); (all_goals try simp only [clI (show j < 80 by omega)]); (all_goals try first | rw [if_pos c7] | rw [if_neg c7]); (all_goals try simp only [clI (show j < 80 by omega)]); (all_goals try rfl)⟩), yPt hPf hτ⟩, hS.F hτ⟩) hS.2.2 dX2_awaitNote_31)

set_option maxHeartbeats 4000000 in
set_option maxRecDepth 100000 in
theorem c_X2_nextReminder (l : Launch) (hl9 : l.stackTraces = false) (G : va_G) (k : Nat → ClassId) (h : Nat) (a : Nat → Nat) (c : Nat → Nat) (C : Nat → Nat → Int32) (n0 : Nat) (M : Nat → Nat → Int32) (ds : Nat) (n1 : Nat) (d : Nat) (x : Int32) (hn : n0 ≤ 8) (hn1 : n1 ≤ 80) : vx_Met l yX2_nextReminder wsX2_nextReminder ({ frames := 7, cells := 2, slots := 12, locals := 111 }) (va_Pc [.ref h, .int x] (yE G (yT k) (W2 k h a c C n0 M ds n1 d))) (vp_Si (fun r => (o_nextReminder x C n0 M n1 d).1 = 0 ∧ r = (o_nextReminder x C n0 M n1 d).2)) (yX (fun E => (E = "java/lang/IndexOutOfBoundsException" ∧ (o_nextReminder x C n0 M n1 d).1 = 1) ∨ (E = yNSE ∧ (o_nextReminder x C n0 M n1 d).1 = 2))) 2 12 (fun _ => False) := by
  refine vx_ofW (cc := cX2_nextReminder) (maxL := 3) (ret := (some .int)) (by decide) rfl ?_
  intro p e s m args below meth c_ s₁ B hml ht hv
  obtain ⟨rfl, hP, hK, hE⟩ := hv
  have hE : yEV0 s s.heap := hE
  have hx := B.exec
  have hb := B.bytes
  have hr := B.returns
  have hts := atoms_spec (ws := wsX2_nextReminder) B.pre
  have hown : s.vm.findClass RX2 = some m.cls := findClass_of_methodNamed B.named
  have hlocks := B.notSynchronized
  have hsz0 : (8 : Nat) < 2 ^ 31 := by decide
  have hsz1 : (80 : Nat) < 2 ^ 31 := by decide
  have hinX0 : ∀ w ∈ u_ws RX0 TX0 7, w ∈ wsX2_nextReminder := by decide +kernel
  have hinX2 : ∀ w ∈ u_ws RX2 TX2 3, w ∈ wsX2_nextReminder := by decide +kernel
  have fl23 := hts (.fieldLink RX2 23 "DunningDesk" "today" "I") (by decide +kernel)
  have fl10 := hts (.fieldLink RX2 10 "DunningDesk" "cases" "LDunningDesk$CaseBook;") (by decide +kernel)
  have hl := lv_entry [.ref h, .int x] (n := 3) (Nat.le_of_ble_eq_true rfl)
  rw [lg_entry_eq]
  generalize (lg_sl [.ref h, .int x] ++ List.replicate (3 - (lg_sl [.ref h, .int x]).length) Slot.unset).toArray = ls at hl ⊢
  have hl : lv_has ls 3 [(0, .ref h), (1, .int x)] := hl
  refine lv_aload_n hx hb dX2_nextReminder_0 rfl (lv_at hl 0 rfl) ?_
  refine lv_iload_n hx hb dX2_nextReminder_1 rfl (lv_at hl 1 rfl) ?_
  refine y_xvV (As := [.int x]) (rest := []) ⟨hx, hb, hml, hown, hts⟩ (c_X2_requireCase l hl9 G k h a c C n0 M ds n1 d x (by omega)) (cwV 1 hts gX2_nextReminder_X2_requireCase rfl rfl rfl (by decide +kernel) ⟨Nat.le_of_ble_eq_true rfl, Nat.le_of_ble_eq_true rfl⟩) hE hK hP (va_recv hK hP (ci := 4) (q0 := 0) rfl rfl) rfl hl.1 rfl (Nat.le_of_ble_eq_true rfl) dX2_nextReminder_2 ⟨Nat.le_of_ble_eq_true rfl, Nat.le_of_ble_eq_true rfl⟩ ht hlocks (fun E h9 => Or.inl (⟨h9.1, by unfold o_nextReminder; (all_goals try first | rw [if_pos h9.2] | rw [if_neg h9.2]); (all_goals try simp only [clI (show j < 80 by omega)]); (all_goals try rfl)⟩)) ⟨Nat.le_of_ble_eq_true rfl, Nat.le_of_ble_eq_true rfl⟩ (fun hr9 => ?_)
  have c2 : inR x n0 := hr9
  obtain ⟨j, hj, rfl⟩ := inR_of (by omega) c2
  refine lv_aload_n hx hb dX2_nextReminder_5 rfl (lv_at hl 0 rfl) ?_
  refine lv_iload_n hx hb dX2_nextReminder_6 rfl (lv_at hl 1 rfl) ?_
  refine y_reV hE.1 (As := [.int (nI j)]) (rest := []) ⟨hx, hb, hml, hown, hts⟩ (c_X2_isAnyReminderLeft l G k h a c C n0 M ds n1 d j (by omega) (by omega)) (cwV 1 hts gX2_nextReminder_X2_isAnyReminderLeft rfl rfl rfl (by decide +kernel) ⟨Nat.le_of_ble_eq_true rfl, Nat.le_of_ble_eq_true rfl⟩) hK hP (va_recv hK hP (ci := 4) (q0 := 0) rfl rfl) rfl hl.1 rfl (Nat.le_of_ble_eq_true rfl) dX2_nextReminder_7 ⟨Nat.le_of_ble_eq_true rfl, Nat.le_of_ble_eq_true rfl⟩ (fun r hr9 => ?_)
  subst hr9
  refine lv_if_ne (tgt := 23) hx hb dX2_nextReminder_10 (by decide) (fun c10 => ?_) (fun c10 => ?_)
  · replace c10 : may C M n1 j := b2_of1 c10
    refine lv_aload_n hx hb dX2_nextReminder_23 rfl (lv_at hl 0 rfl) ?_
    refine va_get (D := G) (ci := 4) (v := .int (nI d)) (C := RX2) (T := TX2) (N := 3) hx hb hts hinX2 hown hK hP 0 rfl rfl 2 (by decide) fl23 (fun _ h9 => h9) rfl dX2_nextReminder_24 ?_
    refine lv_iconst (v := 1) hx hb dX2_nextReminder_27 (by decide) ?_
    refine lv_iadd hx hb dX2_nextReminder_28 ?_
    refine y_top (nI_1 d) ?_
    refine lv_aload_n hx hb dX2_nextReminder_29 rfl (lv_at hl 0 rfl) ?_
    refine va_get (D := G) (ci := 4) (v := .ref (a 0)) (C := RX2) (T := TX2) (N := 3) hx hb hts hinX2 hown hK hP 0 rfl rfl 0 (by decide) fl10 (fun _ h9 => h9) rfl dX2_nextReminder_30 ?_
    refine lv_iload_n hx hb dX2_nextReminder_33 rfl (lv_at hl 1 rfl) ?_
    refine y_roVN (As := [.int (nI j)]) (rest := [.int (nI (d + 1))]) ⟨hx, hb, hml, hown, hts⟩ (c_X0_reminderDay l G k a C n0 j (by omega)) ⟨va_cnB (host := "DunningDesk") 1 hts gX2_nextReminder_X0_reminderDay_n93 rfl rfl rfl (hE.1 (.methodLinkNest RX2 93 yX0_reminderDay "DunningDesk") (by decide +kernel)) (hts (.initialized RX0) (by decide +kernel)) (by decide +kernel) ⟨Nat.le_of_ble_eq_true rfl, Nat.le_of_ble_eq_true rfl⟩, hts (.instanceMethod yX0_reminderDay) (by decide +kernel), hts (.selects RX0 yX0_reminderDay yX0_reminderDay) (by decide +kernel)⟩ hK (P20 hP) (va_recv hK (P20 hP) (ci := 2) (q0 := 0) rfl rfl) rfl hl.1 rfl (Nat.le_of_ble_eq_true rfl) dX2_nextReminder_34 ⟨Nat.le_of_ble_eq_true rfl, Nat.le_of_ble_eq_true rfl⟩ (fun r hr9 => ?_)
    subst hr9
    refine va_mmax hx hb (hml.trans hl.1.symm) hown (hts (.methodLink RX2 97 Lib.Math.max.name) (by decide +kernel)) (hts (.static Lib.Math.max.name) (by decide +kernel)) (hts (.initialized "java/lang/Math") (by decide +kernel)) (hts (.code Lib.Math.max.name Lib.Math.max.code 2 (some .int)) (by decide +kernel)) (Nat.le_of_ble_eq_true rfl) (Nat.le_of_ble_eq_true rfl) (Nat.le_of_ble_eq_true rfl) (Nat.le_of_ble_eq_true rfl) dX2_nextReminder_37 ?_
    refine y_top (y := mx (nI (d + 1)) (C 1 j + 7 * C 2 j + 1)) rfl ?_
    refine lv_istore_n (lv' := [(2, .int (mx (nI (d + 1)) (C 1 j + 7 * C 2 j + 1))), (0, .ref h), (1, .int (nI j))]) hx hb dX2_nextReminder_40 rfl hl (by decide) rfl (fun ls hl => ?_)
    refine lv_iload_n hx hb dX2_nextReminder_41 rfl (lv_at hl 0 rfl) ?_
    refine lv_aload_n hx hb dX2_nextReminder_42 rfl (lv_at hl 1 rfl) ?_
    refine va_get (D := G) (ci := 4) (v := .ref (a 0)) (C := RX2) (T := TX2) (N := 3) hx hb hts hinX2 hown hK hP 0 rfl rfl 0 (by decide) fl10 (fun _ h9 => h9) rfl dX2_nextReminder_43 ?_
    refine va_getN (D := G) (ci := 2) (v := .ref (a 5)) (C := RX0) (T := TX0) (N := 7) (host := "DunningDesk") hx hb hts hinX0 hown hK hP 1 rfl rfl 4 (by decide) (va_Nw.use rfl (hE.1 (.fieldLinkNest RX2 102 "DunningDesk$CaseBook" "pauseEnds" "[I" "DunningDesk") (by decide +kernel))) (fun _ h9 => h9) rfl dX2_nextReminder_46 ?_
    refine lv_iload_n hx hb dX2_nextReminder_49 rfl (lv_at hl 2 rfl) ?_
    refine y_iald hx hb hK hP 6 0 rfl rfl (j := j) (by omega) hsz0 dX2_nextReminder_50 ?_
    refine va_mmax hx hb (hml.trans hl.1.symm) hown (hts (.methodLink RX2 97 Lib.Math.max.name) (by decide +kernel)) (hts (.static Lib.Math.max.name) (by decide +kernel)) (hts (.initialized "java/lang/Math") (by decide +kernel)) (hts (.code Lib.Math.max.name Lib.Math.max.code 2 (some .int)) (by decide +kernel)) (Nat.le_of_ble_eq_true rfl) (Nat.le_of_ble_eq_true rfl) (Nat.le_of_ble_eq_true rfl) (Nat.le_of_ble_eq_true rfl) dX2_nextReminder_51 ?_
    refine y_top (y := mx (mx (nI (d + 1)) (C 1 j + 7 * C 2 j + 1)) (C 3 j)) rfl ?_
    refine W.widen (k := 2) (n := 12) (by decide) (by decide) ?_
    exact vx_ret (W.iret (v := (mx (mx (nI (d + 1)) (C 1 j + 7 * C 2 j + 1)) (C 3 j))) hx hb hr (fun τ hτ _ => ⟨_, rfl, (by exact ⟨by unfold o_nextReminder; (all_goals try first | rw [if_pos c2] | rw [if_neg c2]); (all_goals try simp only [clI (show j < 80 by omega)]); (all_goals try first | rw [if_pos c10] | rw [if_neg c10]); (all_goals try simp only [clI (show j < 80 by omega)]); (all_goals try rfl), by unfold o_nextReminder; (all_goals try first | rw [if_pos c2] | rw [if_neg c2]); (all_goals try simp only [clI (show j < 80 by omega)]); (all_goals try first | rw [if_pos c10] | rw [if_neg c10]); (all_goals try simp only [clI (show j < 80 by omega)]); (first | exact mx_comm3 _ _ _ | (show _ = mx (nI (d + 1)) (rfr C j); exact mx_comm3 _ _ _))⟩), hτ⟩) (fun _ h9 => nomatch h9) dX2_nextReminder_54)
  · replace c10 : ¬ (may C M n1 j) := b2_of0 c10
    exact y_thrN (rest := []) (is := 90) (text := "no reminder would be posted") hx hb hl9 hts hE hown (by decide +kernel) (by decide +kernel) (by decide +kernel) (by decide +kernel) (hl.1.trans hml.symm) dX2_nextReminder_13 dX2_nextReminder_16 dX2_nextReminder_17 dX2_nextReminder_19 dX2_nextReminder_22 ht ⟨Nat.le_of_ble_eq_true rfl, Nat.le_of_ble_eq_true rfl, Nat.le_of_ble_eq_true rfl, Nat.le_of_ble_eq_true rfl⟩ hlocks (by exact Or.inr (⟨rfl, by unfold o_nextReminder; (all_goals try first | rw [if_pos c2] | rw [if_neg c2]); (all_goals try simp only [clI (show j < 80 by omega)]); (all_goals try first | rw [if_pos c10] | rw [if_neg c10]); (all_goals try simp only [clI (show j < 80 by omega)]); (all_goals try rfl)⟩)) ⟨Nat.le_of_ble_eq_true rfl, Nat.le_of_ble_eq_true rfl⟩

set_option maxHeartbeats 4000000 in
set_option maxRecDepth 100000 in
theorem c_X2_withKey (l : Launch) (hl9 : l.stackTraces = false) (G : va_G) (k : Nat → ClassId) (h : Nat) (a : Nat → Nat) (c : Nat → Nat) (C : Nat → Nat → Int32) (n0 : Nat) (M : Nat → Nat → Int32) (ds : Nat) (n1 : Nat) (d : Nat) (key : Int32) (hn1 : n1 ≤ 80) : vx_Met l yX2_withKey wsX2_withKey ({ frames := 6, cells := 1, slots := 6, locals := 90 }) (va_Pc [.ref h, .int key] (yE G (yT k) (W2 k h a c C n0 M ds n1 d))) (vp_Si (fun r => (o_withKey key M n1).1 = 0 ∧ r = (o_withKey key M n1).2)) (yX (fun E => (E = yNSE ∧ (o_withKey key M n1).1 = 1))) 1 6 (fun _ => False) := by
  refine vx_ofW (cc := cX2_withKey) (maxL := 3) (ret := (some .int)) (by decide) rfl ?_
  intro p e s m args below meth c_ s₁ B hml ht hv
  obtain ⟨rfl, hP, hK, hE⟩ := hv
  have hE : yEV0 s s.heap := hE
  have hx := B.exec
  have hb := B.bytes
  have hr := B.returns
  have hts := atoms_spec (ws := wsX2_withKey) B.pre
  have hown : s.vm.findClass RX2 = some m.cls := findClass_of_methodNamed B.named
  have hlocks := B.notSynchronized
  have hsz0 : (8 : Nat) < 2 ^ 31 := by decide
  have hsz1 : (80 : Nat) < 2 ^ 31 := by decide
  have hinX2 : ∀ w ∈ u_ws RX2 TX2 3, w ∈ wsX2_withKey := by decide +kernel
  have fl19 := hts (.fieldLink RX2 19 "DunningDesk" "messages" "LDunningDesk$MessageBook;") (by decide +kernel)
  have hl := lv_entry [.ref h, .int key] (n := 3) (Nat.le_of_ble_eq_true rfl)
  rw [lg_entry_eq]
  generalize (lg_sl [.ref h, .int key] ++ List.replicate (3 - (lg_sl [.ref h, .int key]).length) Slot.unset).toArray = ls at hl ⊢
  have hl : lv_has ls 3 [(0, .ref h), (1, .int key)] := hl
  refine lv_aload_n hx hb dX2_withKey_0 rfl (lv_at hl 0 rfl) ?_
  refine va_get (D := G) (ci := 4) (v := .ref (c 0)) (C := RX2) (T := TX2) (N := 3) hx hb hts hinX2 hown hK hP 0 rfl rfl 1 (by decide) fl19 (fun _ h9 => h9) rfl dX2_withKey_1 ?_
  refine lv_iload_n hx hb dX2_withKey_4 rfl (lv_at hl 1 rfl) ?_
  refine y_roVN (As := [.int key]) (rest := []) ⟨hx, hb, hml, hown, hts⟩ (c_X1_find l G k c M ds n1 key (by omega)) ⟨va_cnB (host := "DunningDesk") 1 hts gX2_withKey_X1_find_n112 rfl rfl rfl (hE.1 (.methodLinkNest RX2 112 yX1_find "DunningDesk") (by decide +kernel)) (hts (.initialized RX1) (by decide +kernel)) (by decide +kernel) ⟨Nat.le_of_ble_eq_true rfl, Nat.le_of_ble_eq_true rfl⟩, hts (.instanceMethod yX1_find) (by decide +kernel), hts (.selects RX1 yX1_find yX1_find) (by decide +kernel)⟩ hK (P21 hP) (va_recv hK (P21 hP) (ci := 3) (q0 := 0) rfl rfl) rfl hl.1 rfl (Nat.le_of_ble_eq_true rfl) dX2_withKey_5 ⟨Nat.le_of_ble_eq_true rfl, Nat.le_of_ble_eq_true rfl⟩ (fun r hr9 => ?_)
  subst hr9
  refine lv_istore_n (lv' := [(2, .int (oI (fnd (M 1) key n1 0))), (0, .ref h), (1, .int key)]) hx hb dX2_withKey_8 rfl hl (by decide) rfl (fun ls hl => ?_)
  refine lv_iload_n hx hb dX2_withKey_9 rfl (lv_at hl 0 rfl) ?_
  refine lv_iconst (v := (-1)) hx hb dX2_withKey_10 (by decide) ?_
  refine lv_icmp_ne (tgt := 24) hx hb dX2_withKey_11 (by decide) (fun c11 => ?_) (fun c11 => ?_)
  · replace c11 : ¬ fnd (M 1) key n1 0 = none := fun h9 => c11 (by rw [h9]; rfl)
    refine lv_iload_n hx hb dX2_withKey_24 rfl (lv_at hl 0 rfl) ?_
    refine W.widen (k := 1) (n := 6) (by decide) (by decide) ?_
    exact vx_ret (W.iret (v := (oI (fnd (M 1) key n1 0))) hx hb hr (fun τ hτ _ => ⟨_, rfl, (by exact ⟨by unfold o_withKey; (all_goals try first | rw [if_pos c11] | rw [if_neg c11]); (all_goals try simp only [clI (show j < 80 by omega)]); (all_goals try rfl), by unfold o_withKey; (all_goals try first | rw [if_pos c11] | rw [if_neg c11]); (all_goals try simp only [clI (show j < 80 by omega)]); (all_goals try rfl)⟩), hτ⟩) (fun _ h9 => nomatch h9) dX2_withKey_25)
  · replace c11 : fnd (M 1) key n1 0 = none := oI_none (fun z h => by have := fnd_lt h; omega) c11
    exact y_thrN (rest := []) (is := 128) (text := "no message has this key") hx hb hl9 hts hE hown (by decide +kernel) (by decide +kernel) (by decide +kernel) (by decide +kernel) (hl.1.trans hml.symm) dX2_withKey_14 dX2_withKey_17 dX2_withKey_18 dX2_withKey_20 dX2_withKey_23 ht ⟨Nat.le_of_ble_eq_true rfl, Nat.le_of_ble_eq_true rfl, Nat.le_of_ble_eq_true rfl, Nat.le_of_ble_eq_true rfl⟩ hlocks (by exact ⟨rfl, by unfold o_withKey; (all_goals try first | rw [if_pos c11] | rw [if_neg c11]); (all_goals try simp only [clI (show j < 80 by omega)]); (all_goals try rfl)⟩) ⟨Nat.le_of_ble_eq_true rfl, Nat.le_of_ble_eq_true rfl⟩

set_option maxHeartbeats 4000000 in
set_option maxRecDepth 100000 in
theorem c_X2_state (l : Launch) (hl9 : l.stackTraces = false) (G : va_G) (k : Nat → ClassId) (h : Nat) (a : Nat → Nat) (c : Nat → Nat) (C : Nat → Nat → Int32) (n0 : Nat) (M : Nat → Nat → Int32) (ds : Nat) (n1 : Nat) (d : Nat) (x : Int32) (hn1 : n1 ≤ 80) (hch : ∀ z, z < n1 → narrow .char (.int (M 5 z)) = .int (M 5 z)) : vx_Met l yX2_state wsX2_state ({ frames := 7, cells := 1, slots := 6, locals := 111 }) (va_Pc [.ref h, .int x] (yE G (yT k) (W2 k h a c C n0 M ds n1 d))) (vp_Si (fun r => (o_row 5 32 x M n1).1 = 0 ∧ r = (o_row 5 32 x M n1).2)) (yX (fun E => (E = "java/lang/IndexOutOfBoundsException" ∧ (o_row 5 32 x M n1).1 = 1))) 1 6 (fun _ => False) := by
  refine vx_ofW (cc := cX2_state) (maxL := 2) (ret := (some .char)) (by decide) rfl ?_
  intro p e s m args below meth c_ s₁ B hml ht hv
  obtain ⟨rfl, hP, hK, hE⟩ := hv
  have hE : yEV0 s s.heap := hE
  have hx := B.exec
  have hb := B.bytes
  have hr := B.returns
  have hts := atoms_spec (ws := wsX2_state) B.pre
  have hown : s.vm.findClass RX2 = some m.cls := findClass_of_methodNamed B.named
  have hlocks := B.notSynchronized
  have hsz0 : (8 : Nat) < 2 ^ 31 := by decide
  have hsz1 : (80 : Nat) < 2 ^ 31 := by decide
  have hinX1 : ∀ w ∈ u_ws RX1 TX1 13, w ∈ wsX2_state := by decide +kernel
  have hinX2 : ∀ w ∈ u_ws RX2 TX2 3, w ∈ wsX2_state := by decide +kernel
  have fl19 := hts (.fieldLink RX2 19 "DunningDesk" "messages" "LDunningDesk$MessageBook;") (by decide +kernel)
  have hl := lv_entry [.ref h, .int x] (n := 2) (Nat.le_of_ble_eq_true rfl)
  rw [lg_entry_eq]
  generalize (lg_sl [.ref h, .int x] ++ List.replicate (2 - (lg_sl [.ref h, .int x]).length) Slot.unset).toArray = ls at hl ⊢
  have hl : lv_has ls 2 [(0, .ref h), (1, .int x)] := hl
  refine lv_aload_n hx hb dX2_state_0 rfl (lv_at hl 0 rfl) ?_
  refine lv_iload_n hx hb dX2_state_1 rfl (lv_at hl 1 rfl) ?_
  refine y_xvV (As := [.int x]) (rest := []) ⟨hx, hb, hml, hown, hts⟩ (c_X2_requireMessage l hl9 G k h a c C n0 M ds n1 d x (by omega)) (cwV 1 hts gX2_state_X2_requireMessage rfl rfl rfl (by decide +kernel) ⟨Nat.le_of_ble_eq_true rfl, Nat.le_of_ble_eq_true rfl⟩) hE hK hP (va_recv hK hP (ci := 4) (q0 := 0) rfl rfl) rfl hl.1 rfl (Nat.le_of_ble_eq_true rfl) dX2_state_2 ⟨Nat.le_of_ble_eq_true rfl, Nat.le_of_ble_eq_true rfl⟩ ht hlocks (fun E h9 => ⟨h9.1, by unfold o_row; (all_goals try first | rw [if_pos h9.2] | rw [if_neg h9.2]); (all_goals try simp only [clI (show j < 80 by omega)]); (all_goals try rfl)⟩) ⟨Nat.le_of_ble_eq_true rfl, Nat.le_of_ble_eq_true rfl⟩ (fun hr9 => ?_)
  have c2 : inR x n1 := hr9
  obtain ⟨j, hj, rfl⟩ := inR_of (by omega) c2
  refine lv_aload_n hx hb dX2_state_5 rfl (lv_at hl 0 rfl) ?_
  refine va_get (D := G) (ci := 4) (v := .ref (c 0)) (C := RX2) (T := TX2) (N := 3) hx hb hts hinX2 hown hK hP 0 rfl rfl 1 (by decide) fl19 (fun _ h9 => h9) rfl dX2_state_6 ?_
  refine va_getN (D := G) (ci := 3) (v := .ref (c 6)) (C := RX1) (T := TX1) (N := 13) (host := "DunningDesk") hx hb hts hinX1 hown hK hP 8 rfl rfl 5 (by decide) (va_Nw.use rfl (hE.1 (.fieldLinkNest RX2 124 "DunningDesk$MessageBook" "states" "[C" "DunningDesk") (by decide +kernel))) (fun _ h9 => h9) rfl dX2_state_9 ?_
  refine lv_iload_n hx hb dX2_state_12 rfl (lv_at hl 1 rfl) ?_
  refine y_cald hx hb hK hP 14 2 rfl rfl (j := j) (by omega) hsz1 dX2_state_13 ?_
  refine W.widen (k := 1) (n := 6) (by decide) (by decide) ?_
  exact vx_ret (W.zret (v := (M 5 j)) hx hb hr (hch j hj) (fun τ hτ _ => ⟨_, rfl, (by exact ⟨by unfold o_row; (all_goals try first | rw [if_pos c2] | rw [if_neg c2]); (all_goals try simp only [clI (show j < 80 by omega)]); (all_goals try rfl), by unfold o_row; (all_goals try first | rw [if_pos c2] | rw [if_neg c2]); (all_goals try simp only [clI (show j < 80 by omega)]); (all_goals try rfl)⟩), hτ⟩) (fun _ h9 => nomatch h9) dX2_state_14)

set_option maxHeartbeats 4000000 in
set_option maxRecDepth 100000 in
theorem c_X2_kind (l : Launch) (hl9 : l.stackTraces = false) (G : va_G) (k : Nat → ClassId) (h : Nat) (a : Nat → Nat) (c : Nat → Nat) (C : Nat → Nat → Int32) (n0 : Nat) (M : Nat → Nat → Int32) (ds : Nat) (n1 : Nat) (d : Nat) (x : Int32) (hn1 : n1 ≤ 80) (hch : ∀ z, z < n1 → narrow .char (.int (M 2 z)) = .int (M 2 z)) : vx_Met l yX2_kind wsX2_kind ({ frames := 7, cells := 1, slots := 6, locals := 111 }) (va_Pc [.ref h, .int x] (yE G (yT k) (W2 k h a c C n0 M ds n1 d))) (vp_Si (fun r => (o_row 2 32 x M n1).1 = 0 ∧ r = (o_row 2 32 x M n1).2)) (yX (fun E => (E = "java/lang/IndexOutOfBoundsException" ∧ (o_row 2 32 x M n1).1 = 1))) 1 6 (fun _ => False) := by
  refine vx_ofW (cc := cX2_kind) (maxL := 2) (ret := (some .char)) (by decide) rfl ?_
  intro p e s m args below meth c_ s₁ B hml ht hv
  obtain ⟨rfl, hP, hK, hE⟩ := hv
  have hE : yEV0 s s.heap := hE
  have hx := B.exec
  have hb := B.bytes
  have hr := B.returns
  have hts := atoms_spec (ws := wsX2_kind) B.pre
  have hown : s.vm.findClass RX2 = some m.cls := findClass_of_methodNamed B.named
  have hlocks := B.notSynchronized
  have hsz0 : (8 : Nat) < 2 ^ 31 := by decide
  have hsz1 : (80 : Nat) < 2 ^ 31 := by decide
  have hinX1 : ∀ w ∈ u_ws RX1 TX1 13, w ∈ wsX2_kind := by decide +kernel
  have hinX2 : ∀ w ∈ u_ws RX2 TX2 3, w ∈ wsX2_kind := by decide +kernel
  have fl19 := hts (.fieldLink RX2 19 "DunningDesk" "messages" "LDunningDesk$MessageBook;") (by decide +kernel)
  have hl := lv_entry [.ref h, .int x] (n := 2) (Nat.le_of_ble_eq_true rfl)
  rw [lg_entry_eq]
  generalize (lg_sl [.ref h, .int x] ++ List.replicate (2 - (lg_sl [.ref h, .int x]).length) Slot.unset).toArray = ls at hl ⊢
  have hl : lv_has ls 2 [(0, .ref h), (1, .int x)] := hl
  refine lv_aload_n hx hb dX2_kind_0 rfl (lv_at hl 0 rfl) ?_
  refine lv_iload_n hx hb dX2_kind_1 rfl (lv_at hl 1 rfl) ?_
  refine y_xvV (As := [.int x]) (rest := []) ⟨hx, hb, hml, hown, hts⟩ (c_X2_requireMessage l hl9 G k h a c C n0 M ds n1 d x (by omega)) (cwV 1 hts gX2_kind_X2_requireMessage rfl rfl rfl (by decide +kernel) ⟨Nat.le_of_ble_eq_true rfl, Nat.le_of_ble_eq_true rfl⟩) hE hK hP (va_recv hK hP (ci := 4) (q0 := 0) rfl rfl) rfl hl.1 rfl (Nat.le_of_ble_eq_true rfl) dX2_kind_2 ⟨Nat.le_of_ble_eq_true rfl, Nat.le_of_ble_eq_true rfl⟩ ht hlocks (fun E h9 => ⟨h9.1, by unfold o_row; (all_goals try first | rw [if_pos h9.2] | rw [if_neg h9.2]); (all_goals try simp only [clI (show j < 80 by omega)]); (all_goals try rfl)⟩) ⟨Nat.le_of_ble_eq_true rfl, Nat.le_of_ble_eq_true rfl⟩ (fun hr9 => ?_)
  have c2 : inR x n1 := hr9
  obtain ⟨j, hj, rfl⟩ := inR_of (by omega) c2
  refine lv_aload_n hx hb dX2_kind_5 rfl (lv_at hl 0 rfl) ?_
  refine va_get (D := G) (ci := 4) (v := .ref (c 0)) (C := RX2) (T := TX2) (N := 3) hx hb hts hinX2 hown hK hP 0 rfl rfl 1 (by decide) fl19 (fun _ h9 => h9) rfl dX2_kind_6 ?_
  refine va_getN (D := G) (ci := 3) (v := .ref (c 3)) (C := RX1) (T := TX1) (N := 13) (host := "DunningDesk") hx hb hts hinX1 hown hK hP 8 rfl rfl 2 (by decide) (va_Nw.use rfl (hE.1 (.fieldLinkNest RX2 133 "DunningDesk$MessageBook" "kinds" "[C" "DunningDesk") (by decide +kernel))) (fun _ h9 => h9) rfl dX2_kind_9 ?_
  refine lv_iload_n hx hb dX2_kind_12 rfl (lv_at hl 1 rfl) ?_
  refine y_cald hx hb hK hP 11 2 rfl rfl (j := j) (by omega) hsz1 dX2_kind_13 ?_
  refine W.widen (k := 1) (n := 6) (by decide) (by decide) ?_
  exact vx_ret (W.zret (v := (M 2 j)) hx hb hr (hch j hj) (fun τ hτ _ => ⟨_, rfl, (by exact ⟨by unfold o_row; (all_goals try first | rw [if_pos c2] | rw [if_neg c2]); (all_goals try simp only [clI (show j < 80 by omega)]); (all_goals try rfl), by unfold o_row; (all_goals try first | rw [if_pos c2] | rw [if_neg c2]); (all_goals try simp only [clI (show j < 80 by omega)]); (all_goals try rfl)⟩), hτ⟩) (fun _ h9 => nomatch h9) dX2_kind_14)

set_option maxHeartbeats 4000000 in
set_option maxRecDepth 100000 in
theorem c_X2_tries (l : Launch) (hl9 : l.stackTraces = false) (G : va_G) (k : Nat → ClassId) (h : Nat) (a : Nat → Nat) (c : Nat → Nat) (C : Nat → Nat → Int32) (n0 : Nat) (M : Nat → Nat → Int32) (ds : Nat) (n1 : Nat) (d : Nat) (x : Int32) (hn1 : n1 ≤ 80) : vx_Met l yX2_tries wsX2_tries ({ frames := 7, cells := 1, slots := 6, locals := 111 }) (va_Pc [.ref h, .int x] (yE G (yT k) (W2 k h a c C n0 M ds n1 d))) (vp_Si (fun r => (o_row 7 0 x M n1).1 = 0 ∧ r = (o_row 7 0 x M n1).2)) (yX (fun E => (E = "java/lang/IndexOutOfBoundsException" ∧ (o_row 7 0 x M n1).1 = 1))) 1 6 (fun _ => False) := by
  refine vx_ofW (cc := cX2_tries) (maxL := 2) (ret := (some .int)) (by decide) rfl ?_
  intro p e s m args below meth c_ s₁ B hml ht hv
  obtain ⟨rfl, hP, hK, hE⟩ := hv
  have hE : yEV0 s s.heap := hE
  have hx := B.exec
  have hb := B.bytes
  have hr := B.returns
  have hts := atoms_spec (ws := wsX2_tries) B.pre
  have hown : s.vm.findClass RX2 = some m.cls := findClass_of_methodNamed B.named
  have hlocks := B.notSynchronized
  have hsz0 : (8 : Nat) < 2 ^ 31 := by decide
  have hsz1 : (80 : Nat) < 2 ^ 31 := by decide
  have hinX1 : ∀ w ∈ u_ws RX1 TX1 13, w ∈ wsX2_tries := by decide +kernel
  have hinX2 : ∀ w ∈ u_ws RX2 TX2 3, w ∈ wsX2_tries := by decide +kernel
  have fl19 := hts (.fieldLink RX2 19 "DunningDesk" "messages" "LDunningDesk$MessageBook;") (by decide +kernel)
  have hl := lv_entry [.ref h, .int x] (n := 2) (Nat.le_of_ble_eq_true rfl)
  rw [lg_entry_eq]
  generalize (lg_sl [.ref h, .int x] ++ List.replicate (2 - (lg_sl [.ref h, .int x]).length) Slot.unset).toArray = ls at hl ⊢
  have hl : lv_has ls 2 [(0, .ref h), (1, .int x)] := hl
  refine lv_aload_n hx hb dX2_tries_0 rfl (lv_at hl 0 rfl) ?_
  refine lv_iload_n hx hb dX2_tries_1 rfl (lv_at hl 1 rfl) ?_
  refine y_xvV (As := [.int x]) (rest := []) ⟨hx, hb, hml, hown, hts⟩ (c_X2_requireMessage l hl9 G k h a c C n0 M ds n1 d x (by omega)) (cwV 1 hts gX2_tries_X2_requireMessage rfl rfl rfl (by decide +kernel) ⟨Nat.le_of_ble_eq_true rfl, Nat.le_of_ble_eq_true rfl⟩) hE hK hP (va_recv hK hP (ci := 4) (q0 := 0) rfl rfl) rfl hl.1 rfl (Nat.le_of_ble_eq_true rfl) dX2_tries_2 ⟨Nat.le_of_ble_eq_true rfl, Nat.le_of_ble_eq_true rfl⟩ ht hlocks (fun E h9 => ⟨h9.1, by unfold o_row; (all_goals try first | rw [if_pos h9.2] | rw [if_neg h9.2]); (all_goals try simp only [clI (show j < 80 by omega)]); (all_goals try rfl)⟩) ⟨Nat.le_of_ble_eq_true rfl, Nat.le_of_ble_eq_true rfl⟩ (fun hr9 => ?_)
  have c2 : inR x n1 := hr9
  obtain ⟨j, hj, rfl⟩ := inR_of (by omega) c2
  refine lv_aload_n hx hb dX2_tries_5 rfl (lv_at hl 0 rfl) ?_
  refine va_get (D := G) (ci := 4) (v := .ref (c 0)) (C := RX2) (T := TX2) (N := 3) hx hb hts hinX2 hown hK hP 0 rfl rfl 1 (by decide) fl19 (fun _ h9 => h9) rfl dX2_tries_6 ?_
  refine va_getN (D := G) (ci := 3) (v := .ref (c 8)) (C := RX1) (T := TX1) (N := 13) (host := "DunningDesk") hx hb hts hinX1 hown hK hP 8 rfl rfl 7 (by decide) (va_Nw.use rfl (hE.1 (.fieldLinkNest RX2 136 "DunningDesk$MessageBook" "triesMade" "[I" "DunningDesk") (by decide +kernel))) (fun _ h9 => h9) rfl dX2_tries_9 ?_
  refine lv_iload_n hx hb dX2_tries_12 rfl (lv_at hl 1 rfl) ?_
  refine y_iald hx hb hK hP 16 0 rfl rfl (j := j) (by omega) hsz1 dX2_tries_13 ?_
  refine W.widen (k := 1) (n := 6) (by decide) (by decide) ?_
  exact vx_ret (W.iret (v := (M 7 j)) hx hb hr (fun τ hτ _ => ⟨_, rfl, (by exact ⟨by unfold o_row; (all_goals try first | rw [if_pos c2] | rw [if_neg c2]); (all_goals try simp only [clI (show j < 80 by omega)]); (all_goals try rfl), by unfold o_row; (all_goals try first | rw [if_pos c2] | rw [if_neg c2]); (all_goals try simp only [clI (show j < 80 by omega)]); (all_goals try rfl)⟩), hτ⟩) (fun _ h9 => nomatch h9) dX2_tries_14)

set_option maxHeartbeats 4000000 in
set_option maxRecDepth 100000 in
theorem c_X2_readyAt (l : Launch) (hl9 : l.stackTraces = false) (G : va_G) (k : Nat → ClassId) (h : Nat) (a : Nat → Nat) (c : Nat → Nat) (C : Nat → Nat → Int32) (n0 : Nat) (M : Nat → Nat → Int32) (ds : Nat) (n1 : Nat) (d : Nat) (x : Int32) (hn1 : n1 ≤ 80) : vx_Met l yX2_readyAt wsX2_readyAt ({ frames := 7, cells := 2, slots := 12, locals := 112 }) (va_Pc [.ref h, .int x] (yE G (yT k) (W2 k h a c C n0 M ds n1 d))) (vp_Si (fun r => (o_rowIf 6 119 x M n1).1 = 0 ∧ r = (o_rowIf 6 119 x M n1).2)) (yX (fun E => (E = "java/lang/IndexOutOfBoundsException" ∧ (o_rowIf 6 119 x M n1).1 = 1) ∨ (E = "java/lang/IllegalStateException" ∧ (o_rowIf 6 119 x M n1).1 = 2))) 2 12 (fun _ => False) := by
  refine vx_ofW (cc := cX2_readyAt) (maxL := 2) (ret := (some .int)) (by decide) rfl ?_
  intro p e s m args below meth c_ s₁ B hml ht hv
  obtain ⟨rfl, hP, hK, hE⟩ := hv
  have hE : yEV0 s s.heap := hE
  have hx := B.exec
  have hb := B.bytes
  have hr := B.returns
  have hts := atoms_spec (ws := wsX2_readyAt) B.pre
  have hown : s.vm.findClass RX2 = some m.cls := findClass_of_methodNamed B.named
  have hlocks := B.notSynchronized
  have hsz0 : (8 : Nat) < 2 ^ 31 := by decide
  have hsz1 : (80 : Nat) < 2 ^ 31 := by decide
  have hinX1 : ∀ w ∈ u_ws RX1 TX1 13, w ∈ wsX2_readyAt := by decide +kernel
  have hinX2 : ∀ w ∈ u_ws RX2 TX2 3, w ∈ wsX2_readyAt := by decide +kernel
  have fl19 := hts (.fieldLink RX2 19 "DunningDesk" "messages" "LDunningDesk$MessageBook;") (by decide +kernel)
  have hl := lv_entry [.ref h, .int x] (n := 2) (Nat.le_of_ble_eq_true rfl)
  rw [lg_entry_eq]
  generalize (lg_sl [.ref h, .int x] ++ List.replicate (2 - (lg_sl [.ref h, .int x]).length) Slot.unset).toArray = ls at hl ⊢
  have hl : lv_has ls 2 [(0, .ref h), (1, .int x)] := hl
  refine lv_aload_n hx hb dX2_readyAt_0 rfl (lv_at hl 0 rfl) ?_
  refine lv_iload_n hx hb dX2_readyAt_1 rfl (lv_at hl 1 rfl) ?_
  refine y_xvV (As := [.int x]) (rest := []) ⟨hx, hb, hml, hown, hts⟩ (c_X2_requireMessage l hl9 G k h a c C n0 M ds n1 d x (by omega)) (cwV 1 hts gX2_readyAt_X2_requireMessage rfl rfl rfl (by decide +kernel) ⟨Nat.le_of_ble_eq_true rfl, Nat.le_of_ble_eq_true rfl⟩) hE hK hP (va_recv hK hP (ci := 4) (q0 := 0) rfl rfl) rfl hl.1 rfl (Nat.le_of_ble_eq_true rfl) dX2_readyAt_2 ⟨Nat.le_of_ble_eq_true rfl, Nat.le_of_ble_eq_true rfl⟩ ht hlocks (fun E h9 => Or.inl (⟨h9.1, by unfold o_rowIf; (all_goals try first | rw [if_pos h9.2] | rw [if_neg h9.2]); (all_goals try simp only [clI (show j < 80 by omega)]); (all_goals try rfl)⟩)) ⟨Nat.le_of_ble_eq_true rfl, Nat.le_of_ble_eq_true rfl⟩ (fun hr9 => ?_)
  have c2 : inR x n1 := hr9
  obtain ⟨j, hj, rfl⟩ := inR_of (by omega) c2
  refine lv_aload_n hx hb dX2_readyAt_5 rfl (lv_at hl 0 rfl) ?_
  refine lv_iload_n hx hb dX2_readyAt_6 rfl (lv_at hl 1 rfl) ?_
  refine lv_bipush (v := 119) hx hb dX2_readyAt_7 (by decide) ?_
  refine y_xvV (As := [.int (nI j), .int 119]) (rest := []) ⟨hx, hb, hml, hown, hts⟩ (c_X2_requireState l hl9 G k h a c C n0 M ds n1 d j 119 (by omega)) (cwV 2 hts gX2_readyAt_X2_requireState rfl rfl rfl (by decide +kernel) ⟨Nat.le_of_ble_eq_true rfl, Nat.le_of_ble_eq_true rfl⟩) hE hK hP (va_recv hK hP (ci := 4) (q0 := 0) rfl rfl) rfl hl.1 rfl (Nat.le_of_ble_eq_true rfl) dX2_readyAt_9 ⟨Nat.le_of_ble_eq_true rfl, Nat.le_of_ble_eq_true rfl⟩ ht hlocks (fun E h9 => Or.inr (⟨h9.1, by unfold o_rowIf; (all_goals try first | rw [if_pos c2] | rw [if_neg c2]); (all_goals try simp only [clI (show j < 80 by omega)]); (all_goals try first | rw [if_pos h9.2] | rw [if_neg h9.2]); (all_goals try simp only [clI (show j < 80 by omega)]); (all_goals try rfl)⟩)) ⟨Nat.le_of_ble_eq_true rfl, Nat.le_of_ble_eq_true rfl⟩ (fun hr9 => ?_)
  have c9 := hr9
  refine lv_aload_n hx hb dX2_readyAt_12 rfl (lv_at hl 0 rfl) ?_
  refine va_get (D := G) (ci := 4) (v := .ref (c 0)) (C := RX2) (T := TX2) (N := 3) hx hb hts hinX2 hown hK hP 0 rfl rfl 1 (by decide) fl19 (fun _ h9 => h9) rfl dX2_readyAt_13 ?_
  refine va_getN (D := G) (ci := 3) (v := .ref (c 7)) (C := RX1) (T := TX1) (N := 13) (host := "DunningDesk") hx hb hts hinX1 hown hK hP 8 rfl rfl 6 (by decide) (va_Nw.use rfl (hE.1 (.fieldLinkNest RX2 143 "DunningDesk$MessageBook" "readyDays" "[I" "DunningDesk") (by decide +kernel))) (fun _ h9 => h9) rfl dX2_readyAt_16 ?_
  refine lv_iload_n hx hb dX2_readyAt_19 rfl (lv_at hl 1 rfl) ?_
  refine y_iald hx hb hK hP 15 0 rfl rfl (j := j) (by omega) hsz1 dX2_readyAt_20 ?_
  refine W.widen (k := 2) (n := 12) (by decide) (by decide) ?_
  exact vx_ret (W.iret (v := (M 6 j)) hx hb hr (fun τ hτ _ => ⟨_, rfl, (by exact ⟨by unfold o_rowIf; (all_goals try first | rw [if_pos c2] | rw [if_neg c2]); (all_goals try simp only [clI (show j < 80 by omega)]); (all_goals try first | rw [if_pos c9] | rw [if_neg c9]); (all_goals try simp only [clI (show j < 80 by omega)]); (all_goals try rfl), by unfold o_rowIf; (all_goals try first | rw [if_pos c2] | rw [if_neg c2]); (all_goals try simp only [clI (show j < 80 by omega)]); (all_goals try first | rw [if_pos c9] | rw [if_neg c9]); (all_goals try simp only [clI (show j < 80 by omega)]); (all_goals try rfl)⟩), hτ⟩) (fun _ h9 => nomatch h9) dX2_readyAt_21)

set_option maxHeartbeats 4000000 in
set_option maxRecDepth 100000 in
theorem c_X2_clerk (l : Launch) (hl9 : l.stackTraces = false) (G : va_G) (k : Nat → ClassId) (h : Nat) (a : Nat → Nat) (c : Nat → Nat) (C : Nat → Nat → Int32) (n0 : Nat) (M : Nat → Nat → Int32) (ds : Nat) (n1 : Nat) (d : Nat) (x : Int32) (hn1 : n1 ≤ 80) : vx_Met l yX2_clerk wsX2_clerk ({ frames := 7, cells := 2, slots := 12, locals := 111 }) (va_Pc [.ref h, .int x] (yE G (yT k) (W2 k h a c C n0 M ds n1 d))) (vp_Si (fun r => (o_rowIf 8 116 x M n1).1 = 0 ∧ r = (o_rowIf 8 116 x M n1).2)) (yX (fun E => (E = "java/lang/IndexOutOfBoundsException" ∧ (o_rowIf 8 116 x M n1).1 = 1) ∨ (E = yNSE ∧ (o_rowIf 8 116 x M n1).1 = 2))) 2 12 (fun _ => False) := by
  refine vx_ofW (cc := cX2_clerk) (maxL := 2) (ret := (some .int)) (by decide) rfl ?_
  intro p e s m args below meth c_ s₁ B hml ht hv
  obtain ⟨rfl, hP, hK, hE⟩ := hv
  have hE : yEV0 s s.heap := hE
  have hx := B.exec
  have hb := B.bytes
  have hr := B.returns
  have hts := atoms_spec (ws := wsX2_clerk) B.pre
  have hown : s.vm.findClass RX2 = some m.cls := findClass_of_methodNamed B.named
  have hlocks := B.notSynchronized
  have hsz0 : (8 : Nat) < 2 ^ 31 := by decide
  have hsz1 : (80 : Nat) < 2 ^ 31 := by decide
  have hinX1 : ∀ w ∈ u_ws RX1 TX1 13, w ∈ wsX2_clerk := by decide +kernel
  have hinX2 : ∀ w ∈ u_ws RX2 TX2 3, w ∈ wsX2_clerk := by decide +kernel
  have fl19 := hts (.fieldLink RX2 19 "DunningDesk" "messages" "LDunningDesk$MessageBook;") (by decide +kernel)
  have hl := lv_entry [.ref h, .int x] (n := 2) (Nat.le_of_ble_eq_true rfl)
  rw [lg_entry_eq]
  generalize (lg_sl [.ref h, .int x] ++ List.replicate (2 - (lg_sl [.ref h, .int x]).length) Slot.unset).toArray = ls at hl ⊢
  have hl : lv_has ls 2 [(0, .ref h), (1, .int x)] := hl
  refine lv_aload_n hx hb dX2_clerk_0 rfl (lv_at hl 0 rfl) ?_
  refine lv_iload_n hx hb dX2_clerk_1 rfl (lv_at hl 1 rfl) ?_
  refine y_xvV (As := [.int x]) (rest := []) ⟨hx, hb, hml, hown, hts⟩ (c_X2_requireMessage l hl9 G k h a c C n0 M ds n1 d x (by omega)) (cwV 1 hts gX2_clerk_X2_requireMessage rfl rfl rfl (by decide +kernel) ⟨Nat.le_of_ble_eq_true rfl, Nat.le_of_ble_eq_true rfl⟩) hE hK hP (va_recv hK hP (ci := 4) (q0 := 0) rfl rfl) rfl hl.1 rfl (Nat.le_of_ble_eq_true rfl) dX2_clerk_2 ⟨Nat.le_of_ble_eq_true rfl, Nat.le_of_ble_eq_true rfl⟩ ht hlocks (fun E h9 => Or.inl (⟨h9.1, by unfold o_rowIf; (all_goals try first | rw [if_pos h9.2] | rw [if_neg h9.2]); (all_goals try simp only [clI (show j < 80 by omega)]); (all_goals try rfl)⟩)) ⟨Nat.le_of_ble_eq_true rfl, Nat.le_of_ble_eq_true rfl⟩ (fun hr9 => ?_)
  have c2 : inR x n1 := hr9
  obtain ⟨j, hj, rfl⟩ := inR_of (by omega) c2
  refine lv_aload_n hx hb dX2_clerk_5 rfl (lv_at hl 0 rfl) ?_
  refine va_get (D := G) (ci := 4) (v := .ref (c 0)) (C := RX2) (T := TX2) (N := 3) hx hb hts hinX2 hown hK hP 0 rfl rfl 1 (by decide) fl19 (fun _ h9 => h9) rfl dX2_clerk_6 ?_
  refine va_getN (D := G) (ci := 3) (v := .ref (c 6)) (C := RX1) (T := TX1) (N := 13) (host := "DunningDesk") hx hb hts hinX1 hown hK hP 8 rfl rfl 5 (by decide) (va_Nw.use rfl (hE.1 (.fieldLinkNest RX2 124 "DunningDesk$MessageBook" "states" "[C" "DunningDesk") (by decide +kernel))) (fun _ h9 => h9) rfl dX2_clerk_9 ?_
  refine lv_iload_n hx hb dX2_clerk_12 rfl (lv_at hl 1 rfl) ?_
  refine y_cald hx hb hK hP 14 2 rfl rfl (j := j) (by omega) hsz1 dX2_clerk_13 ?_
  refine lv_bipush (v := 116) hx hb dX2_clerk_14 (by decide) ?_
  refine lv_icmp_eq (tgt := 29) hx hb dX2_clerk_16 (by decide) (fun c16 => ?_) (fun c16 => ?_)
  · skip
    refine lv_aload_n hx hb dX2_clerk_29 rfl (lv_at hl 0 rfl) ?_
    refine va_get (D := G) (ci := 4) (v := .ref (c 0)) (C := RX2) (T := TX2) (N := 3) hx hb hts hinX2 hown hK hP 0 rfl rfl 1 (by decide) fl19 (fun _ h9 => h9) rfl dX2_clerk_30 ?_
    refine va_getN (D := G) (ci := 3) (v := .ref (c 9)) (C := RX1) (T := TX1) (N := 13) (host := "DunningDesk") hx hb hts hinX1 hown hK hP 8 rfl rfl 8 (by decide) (va_Nw.use rfl (hE.1 (.fieldLinkNest RX2 187 "DunningDesk$MessageBook" "takers" "[I" "DunningDesk") (by decide +kernel))) (fun _ h9 => h9) rfl dX2_clerk_33 ?_
    refine lv_iload_n hx hb dX2_clerk_36 rfl (lv_at hl 1 rfl) ?_
    refine y_iald hx hb hK hP 17 0 rfl rfl (j := j) (by omega) hsz1 dX2_clerk_37 ?_
    refine W.widen (k := 2) (n := 12) (by decide) (by decide) ?_
    exact vx_ret (W.iret (v := (M 8 j)) hx hb hr (fun τ hτ _ => ⟨_, rfl, (by exact ⟨by unfold o_rowIf; (all_goals try first | rw [if_pos c2] | rw [if_neg c2]); (all_goals try simp only [clI (show j < 80 by omega)]); (all_goals try first | rw [if_pos c16] | rw [if_neg c16]); (all_goals try simp only [clI (show j < 80 by omega)]); (all_goals try rfl), by unfold o_rowIf; (all_goals try first | rw [if_pos c2] | rw [if_neg c2]); (all_goals try simp only [clI (show j < 80 by omega)]); (all_goals try first | rw [if_pos c16] | rw [if_neg c16]); (all_goals try simp only [clI (show j < 80 by omega)]); (all_goals try rfl)⟩), hτ⟩) (fun _ h9 => nomatch h9) dX2_clerk_38)
  · skip
    exact y_thrN (rest := []) (is := 185) (text := "the message is not taken") hx hb hl9 hts hE hown (by decide +kernel) (by decide +kernel) (by decide +kernel) (by decide +kernel) (hl.1.trans hml.symm) dX2_clerk_19 dX2_clerk_22 dX2_clerk_23 dX2_clerk_25 dX2_clerk_28 ht ⟨Nat.le_of_ble_eq_true rfl, Nat.le_of_ble_eq_true rfl, Nat.le_of_ble_eq_true rfl, Nat.le_of_ble_eq_true rfl⟩ hlocks (by exact Or.inr (⟨rfl, by unfold o_rowIf; (all_goals try first | rw [if_pos c2] | rw [if_neg c2]); (all_goals try simp only [clI (show j < 80 by omega)]); (all_goals try first | rw [if_pos c16] | rw [if_neg c16]); (all_goals try simp only [clI (show j < 80 by omega)]); (all_goals try rfl)⟩)) ⟨Nat.le_of_ble_eq_true rfl, Nat.le_of_ble_eq_true rfl⟩

set_option maxHeartbeats 4000000 in
set_option maxRecDepth 100000 in
theorem c_X2_ready (l : Launch) (hl9 : l.stackTraces = false) (G : va_G) (k : Nat → ClassId) (h : Nat) (a : Nat → Nat) (c : Nat → Nat) (C : Nat → Nat → Int32) (n0 : Nat) (M : Nat → Nat → Int32) (ds : Nat) (n1 : Nat) (d : Nat) (q : Int32) (hn1 : n1 ≤ 80) : vx_Met l yX2_ready wsX2_ready ({ frames := 7, cells := 1, slots := 6, locals := 110 }) (va_Pc [.ref h, .int q] (yE G (yT k) (W2 k h a c C n0 M ds n1 d))) (vp_Si (fun r => (o_ready q M n1 d).1 = 0 ∧ r = (o_ready q M n1 d).2)) (yX (fun E => (E = "java/lang/IllegalArgumentException" ∧ (o_ready q M n1 d).1 = 1))) 1 6 (fun _ => False) := by
  refine vx_ofW (cc := cX2_ready) (maxL := 2) (ret := (some .int)) (by decide) rfl ?_
  intro p e s m args below meth c_ s₁ B hml ht hv
  obtain ⟨rfl, hP, hK, hE⟩ := hv
  have hE : yEV0 s s.heap := hE
  have hx := B.exec
  have hb := B.bytes
  have hr := B.returns
  have hts := atoms_spec (ws := wsX2_ready) B.pre
  have hown : s.vm.findClass RX2 = some m.cls := findClass_of_methodNamed B.named
  have hlocks := B.notSynchronized
  have hsz0 : (8 : Nat) < 2 ^ 31 := by decide
  have hsz1 : (80 : Nat) < 2 ^ 31 := by decide
  have hinX2 : ∀ w ∈ u_ws RX2 TX2 3, w ∈ wsX2_ready := by decide +kernel
  have fl19 := hts (.fieldLink RX2 19 "DunningDesk" "messages" "LDunningDesk$MessageBook;") (by decide +kernel)
  have fl23 := hts (.fieldLink RX2 23 "DunningDesk" "today" "I") (by decide +kernel)
  have hl := lv_entry [.ref h, .int q] (n := 2) (Nat.le_of_ble_eq_true rfl)
  rw [lg_entry_eq]
  generalize (lg_sl [.ref h, .int q] ++ List.replicate (2 - (lg_sl [.ref h, .int q]).length) Slot.unset).toArray = ls at hl ⊢
  have hl : lv_has ls 2 [(0, .ref h), (1, .int q)] := hl
  refine lv_iload_n hx hb dX2_ready_0 rfl (lv_at hl 1 rfl) ?_
  refine y_xvS (As := [.int q]) (rest := []) ⟨hx, hb, hml, hown, hts⟩ (c_X2_requireQueue l hl9 q ) (va_cwS 1 hts gX2_ready_X2_requireQueue rfl rfl rfl (by decide +kernel) ⟨Nat.le_of_ble_eq_true rfl, Nat.le_of_ble_eq_true rfl⟩) hE rfl hl.1 rfl (Nat.le_of_ble_eq_true rfl) dX2_ready_1 ⟨Nat.le_of_ble_eq_true rfl, Nat.le_of_ble_eq_true rfl⟩ ht hlocks (fun E h9 => ⟨h9.1, by unfold o_ready; (all_goals try first | rw [if_pos h9.2] | rw [if_neg h9.2]); (all_goals try simp only [clI (show j < 80 by omega)]); (all_goals try rfl)⟩) ⟨Nat.le_of_ble_eq_true rfl, Nat.le_of_ble_eq_true rfl⟩ (fun hr9 => ?_)
  have c1 := hr9
  refine lv_aload_n hx hb dX2_ready_4 rfl (lv_at hl 0 rfl) ?_
  refine va_get (D := G) (ci := 4) (v := .ref (c 0)) (C := RX2) (T := TX2) (N := 3) hx hb hts hinX2 hown hK hP 0 rfl rfl 1 (by decide) fl19 (fun _ h9 => h9) rfl dX2_ready_5 ?_
  refine lv_iload_n hx hb dX2_ready_8 rfl (lv_at hl 1 rfl) ?_
  refine lv_aload_n hx hb dX2_ready_9 rfl (lv_at hl 0 rfl) ?_
  refine va_get (D := G) (ci := 4) (v := .int (nI d)) (C := RX2) (T := TX2) (N := 3) hx hb hts hinX2 hown hK hP 0 rfl rfl 2 (by decide) fl23 (fun _ h9 => h9) rfl dX2_ready_10 ?_
  refine y_roVN (As := [.int q, .int (nI d)]) (rest := []) ⟨hx, hb, hml, hown, hts⟩ (c_X1_countReady l G k c M ds n1 q (nI d) (by omega)) ⟨va_cnB (host := "DunningDesk") 2 hts gX2_ready_X1_countReady_n146 rfl rfl rfl (hE.1 (.methodLinkNest RX2 146 yX1_countReady "DunningDesk") (by decide +kernel)) (hts (.initialized RX1) (by decide +kernel)) (by decide +kernel) ⟨Nat.le_of_ble_eq_true rfl, Nat.le_of_ble_eq_true rfl⟩, hts (.instanceMethod yX1_countReady) (by decide +kernel), hts (.selects RX1 yX1_countReady yX1_countReady) (by decide +kernel)⟩ hK (P21 hP) (va_recv hK (P21 hP) (ci := 3) (q0 := 0) rfl rfl) rfl hl.1 rfl (Nat.le_of_ble_eq_true rfl) dX2_ready_13 ⟨Nat.le_of_ble_eq_true rfl, Nat.le_of_ble_eq_true rfl⟩ (fun r hr9 => ?_)
  subst hr9
  refine W.widen (k := 1) (n := 6) (by decide) (by decide) ?_
  exact vx_ret (W.iret (v := (nI (cnt (fun z => decide (rdy M q (nI d) z)) n1 0 0))) hx hb hr (fun τ hτ _ => ⟨_, rfl, (by exact ⟨by unfold o_ready; (all_goals try first | rw [if_pos c1] | rw [if_neg c1]); (all_goals try simp only [clI (show j < 80 by omega)]); (all_goals try rfl), by unfold o_ready; (all_goals try first | rw [if_pos c1] | rw [if_neg c1]); (all_goals try simp only [clI (show j < 80 by omega)]); (all_goals try rfl)⟩), hτ⟩) (fun _ h9 => nomatch h9) dX2_ready_16)

set_option maxHeartbeats 4000000 in
set_option maxRecDepth 100000 in
theorem c_X2_has (l : Launch) (hl9 : l.stackTraces = false) (G : va_G) (k : Nat → ClassId) (h : Nat) (a : Nat → Nat) (c : Nat → Nat) (C : Nat → Nat → Int32) (n0 : Nat) (M : Nat → Nat → Int32) (ds : Nat) (n1 : Nat) (d : Nat) (u : Int32) (hn1 : n1 ≤ 80) : vx_Met l yX2_has wsX2_has ({ frames := 7, cells := 1, slots := 6, locals := 110 }) (va_Pc [.ref h, .int u] (yE G (yT k) (W2 k h a c C n0 M ds n1 d))) (vp_Si (fun r => (o_has u M n1).1 = 0 ∧ r = (o_has u M n1).2)) (yX (fun E => (E = "java/lang/IllegalArgumentException" ∧ (o_has u M n1).1 = 1))) 1 6 (fun _ => False) := by
  refine vx_ofW (cc := cX2_has) (maxL := 2) (ret := (some .int)) (by decide) rfl ?_
  intro p e s m args below meth c_ s₁ B hml ht hv
  obtain ⟨rfl, hP, hK, hE⟩ := hv
  have hE : yEV0 s s.heap := hE
  have hx := B.exec
  have hb := B.bytes
  have hr := B.returns
  have hts := atoms_spec (ws := wsX2_has) B.pre
  have hown : s.vm.findClass RX2 = some m.cls := findClass_of_methodNamed B.named
  have hlocks := B.notSynchronized
  have hsz0 : (8 : Nat) < 2 ^ 31 := by decide
  have hsz1 : (80 : Nat) < 2 ^ 31 := by decide
  have hinX2 : ∀ w ∈ u_ws RX2 TX2 3, w ∈ wsX2_has := by decide +kernel
  have fl19 := hts (.fieldLink RX2 19 "DunningDesk" "messages" "LDunningDesk$MessageBook;") (by decide +kernel)
  have hl := lv_entry [.ref h, .int u] (n := 2) (Nat.le_of_ble_eq_true rfl)
  rw [lg_entry_eq]
  generalize (lg_sl [.ref h, .int u] ++ List.replicate (2 - (lg_sl [.ref h, .int u]).length) Slot.unset).toArray = ls at hl ⊢
  have hl : lv_has ls 2 [(0, .ref h), (1, .int u)] := hl
  refine lv_iload_n hx hb dX2_has_0 rfl (lv_at hl 1 rfl) ?_
  refine y_xvS (As := [.int u]) (rest := []) ⟨hx, hb, hml, hown, hts⟩ (c_X2_requireClerk l hl9 u ) (va_cwS 1 hts gX2_has_X2_requireClerk rfl rfl rfl (by decide +kernel) ⟨Nat.le_of_ble_eq_true rfl, Nat.le_of_ble_eq_true rfl⟩) hE rfl hl.1 rfl (Nat.le_of_ble_eq_true rfl) dX2_has_1 ⟨Nat.le_of_ble_eq_true rfl, Nat.le_of_ble_eq_true rfl⟩ ht hlocks (fun E h9 => ⟨h9.1, by unfold o_has; (all_goals try first | rw [if_pos h9.2] | rw [if_neg h9.2]); (all_goals try simp only [clI (show j < 80 by omega)]); (all_goals try rfl)⟩) ⟨Nat.le_of_ble_eq_true rfl, Nat.le_of_ble_eq_true rfl⟩ (fun hr9 => ?_)
  have c1 := hr9
  refine lv_aload_n hx hb dX2_has_4 rfl (lv_at hl 0 rfl) ?_
  refine va_get (D := G) (ci := 4) (v := .ref (c 0)) (C := RX2) (T := TX2) (N := 3) hx hb hts hinX2 hown hK hP 0 rfl rfl 1 (by decide) fl19 (fun _ h9 => h9) rfl dX2_has_5 ?_
  refine lv_iload_n hx hb dX2_has_8 rfl (lv_at hl 1 rfl) ?_
  refine y_roVN (As := [.int u]) (rest := []) ⟨hx, hb, hml, hown, hts⟩ (c_X1_countTakenBy l G k c M ds n1 u (by omega)) ⟨va_cnB (host := "DunningDesk") 1 hts gX2_has_X1_countTakenBy_n158 rfl rfl rfl (hE.1 (.methodLinkNest RX2 158 yX1_countTakenBy "DunningDesk") (by decide +kernel)) (hts (.initialized RX1) (by decide +kernel)) (by decide +kernel) ⟨Nat.le_of_ble_eq_true rfl, Nat.le_of_ble_eq_true rfl⟩, hts (.instanceMethod yX1_countTakenBy) (by decide +kernel), hts (.selects RX1 yX1_countTakenBy yX1_countTakenBy) (by decide +kernel)⟩ hK (P21 hP) (va_recv hK (P21 hP) (ci := 3) (q0 := 0) rfl rfl) rfl hl.1 rfl (Nat.le_of_ble_eq_true rfl) dX2_has_9 ⟨Nat.le_of_ble_eq_true rfl, Nat.le_of_ble_eq_true rfl⟩ (fun r hr9 => ?_)
  subst hr9
  refine W.widen (k := 1) (n := 6) (by decide) (by decide) ?_
  exact vx_ret (W.iret (v := (nI (cnt (fun z => decide (M 5 z = 116 ∧ M 8 z = u)) n1 0 0))) hx hb hr (fun τ hτ _ => ⟨_, rfl, (by exact ⟨by unfold o_has; (all_goals try first | rw [if_pos c1] | rw [if_neg c1]); (all_goals try simp only [clI (show j < 80 by omega)]); (all_goals try rfl), by unfold o_has; (all_goals try first | rw [if_pos c1] | rw [if_neg c1]); (all_goals try simp only [clI (show j < 80 by omega)]); (all_goals try rfl)⟩), hτ⟩) (fun _ h9 => nomatch h9) dX2_has_12)
