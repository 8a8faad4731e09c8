set_option maxHeartbeats 8000000 in
set_option maxRecDepth 100000 in
theorem c_cases (l : Launch) (hl9 : l.stackTraces = false) (G : va_G) (k : Nat → ClassId) (h : Nat) (a c : Nat → Nat) (σ : SX) (sz : Nat) (hJ : yJs σ) : Met l yL_cases wsL_cases ({ frames := 9, cells := 9, slots := 54, locals := 155 }) (va_Pc [.ref h] (yL G (yT k) (WS k h a c σ) sz)) (va_Qi (fun (r : Int32) (_ : Unit) => r = nI σ.2.1) (fun _ _ => True) (fun q : Nat => sz ≤ q)) 9 54 (fun q : Nat => sz ≤ q) := by
  refine Met.ofW (cc := cL_cases) (maxL := 2) (ret := (some .int)) (by decide) rfl ?_
  intro p e s m args below meth c_ s₁ B hml hv
  obtain ⟨rfl, hsz, hP0, hK, hV⟩ := hv
  have hx := B.exec
  have hb := B.bytes
  have hr := B.returns
  have hts := atoms_spec (ws := wsL_cases) B.pre
  have hown : s.vm.findClass RL = some m.cls := findClass_of_methodNamed B.named
  have hlocks := B.notSynchronized
  subst hsz
  have hS : yO s s.heap [] := yO_rf
  have hn0 : σ.2.1 ≤ 8 := J_n0 hJ
  have hn1 : σ.2.2.2.2.1 ≤ 80 := J_n1 hJ
  have hl := lv_entry ([.ref h]) (n := 2) (Nat.le_of_ble_eq_true rfl)
  rw [lg_entry_eq]
  generalize (lg_sl ([.ref h]) ++ List.replicate (2 - (lg_sl ([.ref h])).length) Slot.unset).toArray = ls at hl ⊢
  have hl : lv_has ls 2 [(0, .ref h)] := hl
  refine lv_iconst (v := 0) hx hb dL_cases_0 (by decide) ?_
  refine lv_istore_n (lv' := [(1, .int 0), (0, .ref h)]) hx hb dL_cases_1 rfl hl (by decide) rfl (fun ls hl => ?_)
  have hl : lv_has ls 2 [(1, .int (nI 0)), (0, .ref h)] := lv_sub hl [0, 1] rfl
  refine y_loopC (σ := Nat) (fun r xσ cells slots H locs ls => xσ + r = σ.2.1 ∧ yO s H locs ∧ cells + (1 * r + 1) ≤ 9 ∧ slots + (6 * r + 6) ≤ 54 ∧ lv_has ls 2 [(1, .int (nI xσ)), (0, .ref h)]) (fun r xσ cells slots H locs ls hI ih2 => ?_) σ.2.1 0 _ _ _ _ _ ⟨(by omega), hS, (by (try dsimp only); omega), (by (try dsimp only); omega), hl⟩
  obtain ⟨i, rfl⟩ : ∃ z, z = xσ := ⟨xσ, rfl⟩
  obtain ⟨hi, hS, hb1, hb2, hl⟩ := hI
  refine lv_iload_n hx hb dL_cases_2 rfl (lv_at hl 0 rfl) ?_
  refine lv_bipush (v := 8) hx hb dL_cases_3 (by decide) ?_
  refine lv_icmp_ge (tgt := 23) hx hb dL_cases_5 (by decide) (fun c5 => ?_) (fun c5 => ?_)
  · skip
    replace c5 : 8 ≤ i := (nI_leI (a := 8) (b := i) (by omega) (by omega)).mp c5
    have hi9 : i = σ.2.1 := by omega
    refine lv_iload_n hx hb dL_cases_23 rfl (lv_at hl 0 rfl) ?_
    refine W.widen (k := 9) (n := 54) (show cells ≤ 9 by omega) (show slots ≤ 54 by omega) ?_
    exact W.iret (v := (nI i)) hx hb hr (fun τ hτ hW => ⟨⟨_, (), rfl, (by rw [hi9]), trivial⟩, hS.F hτ⟩) hS.2.2 dL_cases_24
  · skip
    refine lv_aload_n hx hb dL_cases_8 rfl (lv_at hl 1 rfl) ?_
    refine lv_iload_n hx hb dL_cases_9 rfl (lv_at hl 0 rfl) ?_
    refine lv_iconst (v := 0) hx hb dL_cases_10 (by decide) ?_
    refine y_lro (vx_runSW (As := [.ref h, .int (nI i), .int 0]) (rest := []) ⟨hx, hb, hml, hown, hts⟩ (c_of_0 l hl9 G k h a c σ H.size (nI i) hJ.1) (vx_cwSW 3 hts gL_cases_L_of rfl rfl rfl (by decide +kernel) ⟨Nat.le_of_ble_eq_true rfl, Nat.le_of_ble_eq_true rfl⟩) (yL_pre hS hV (yKeep hP0 (yO_k hS)) hK) rfl rfl hl.1 rfl (lv_room (Nat.le_of_ble_eq_true rfl)) dL_cases_11 ⟨show cells + 1 ≤ 9 by omega, show slots + 6 ≤ 54 by omega⟩) hS (fun r H1 locs1 hr9 hk9 hS1 => ?_)
    have hS := hS1
    clear hk9 hS1
    subst hr9
    refine lv_if_lt (tgt := 23) hx hb dL_cases_14 (by decide) (fun c14 => ?_) (fun c14 => ?_)
    · skip
      have hi8 : ¬ i < σ.2.1 := fun h9 => absurd c14 (by rw [of_0 hJ h9]; exact Int32.not_lt.mpr (hJ.1.2.2.2.1 i h9))
      have hi9 : i = σ.2.1 := by omega
      refine lv_iload_n hx hb dL_cases_23 rfl (lv_at hl 0 rfl) ?_
      refine W.widen (k := 9) (n := 54) (show cells + 1 ≤ 9 by omega) (show slots + 6 ≤ 54 by omega) ?_
      exact W.iret (v := (nI i)) hx hb hr (fun τ hτ hW => ⟨⟨_, (), rfl, (by rw [hi9]), trivial⟩, hS.F hτ⟩) hS.2.2 dL_cases_24
    · skip
      have hi8 : i < σ.2.1 := Nat.lt_of_not_le (fun h9 => c14 (by rw [show i = σ.2.1 by omega, of_x (by decide) (inR_n (by omega))]; decide))
      obtain ⟨r1, rfl⟩ : ∃ z, r = z + 1 := ⟨r - 1, by omega⟩
      refine lv_iinc (v := (nI (i + 1))) (lv' := [(1, .int (nI (i + 1))), (0, .ref h)]) hx hb dL_cases_17 hl (k := 0) rfl (nI_1 i) (by decide) rfl (fun ls hl => ?_)
      refine lv_goto (tgt := 2) hx hb dL_cases_20 (by decide) ?_
      exact ih2 r1 (i + 1) _ _ _ _ _ (by omega) ⟨(by omega), hS, (by (try dsimp only); omega), (by (try dsimp only); omega), lv_sub hl [0, 1] rfl⟩

set_option maxHeartbeats 8000000 in
set_option maxRecDepth 100000 in
theorem c_messages (l : Launch) (hl9 : l.stackTraces = false) (G : va_G) (k : Nat → ClassId) (h : Nat) (a c : Nat → Nat) (σ : SX) (sz : Nat) (hJ : yJs σ) : Met l yL_messages wsL_messages ({ frames := 8, cells := 5, slots := 30, locals := 134 }) (va_Pc [.ref h] (yL G (yT k) (WS k h a c σ) sz)) (va_Qi (fun (r : Int32) (_ : Unit) => r = nI σ.2.2.2.2.1) (fun _ _ => True) (fun q : Nat => sz ≤ q)) 5 30 (fun q : Nat => sz ≤ q) := by
  refine Met.ofW (cc := cL_messages) (maxL := 3) (ret := (some .int)) (by decide) rfl ?_
  intro p e s m args below meth c_ s₁ B hml hv
  obtain ⟨rfl, hsz, hP0, hK, hV⟩ := hv
  have hx := B.exec
  have hb := B.bytes
  have hr := B.returns
  have hts := atoms_spec (ws := wsL_messages) B.pre
  have hown : s.vm.findClass RL = some m.cls := findClass_of_methodNamed B.named
  have hlocks := B.notSynchronized
  subst hsz
  have hS : yO s s.heap [] := yO_rf
  have hn0 : σ.2.1 ≤ 8 := J_n0 hJ
  have hn1 : σ.2.2.2.2.1 ≤ 80 := J_n1 hJ
  have hl := lv_entry ([.ref h]) (n := 3) (Nat.le_of_ble_eq_true rfl)
  rw [lg_entry_eq]
  generalize (lg_sl ([.ref h]) ++ List.replicate (3 - (lg_sl ([.ref h])).length) Slot.unset).toArray = ls at hl ⊢
  have hl : lv_has ls 3 [(0, .ref h)] := hl
  obtain ⟨adK, adV, hSQ, hT0, hT1⟩ := hV.2.2
  refine lv_iconst (v := 0) hx hb dL_messages_0 (by decide) ?_
  refine lv_istore_n (lv' := [(1, .int 0), (0, .ref h)]) hx hb dL_messages_1 rfl hl (by decide) rfl (fun ls hl => ?_)
  refine lv_iconst (v := 0) hx hb dL_messages_2 (by decide) ?_
  refine lv_istore_n (lv' := [(2, .int 0), (1, .int 0), (0, .ref h)]) hx hb dL_messages_3 rfl hl (by decide) rfl (fun ls hl => ?_)
  refine lv_iload_n hx hb dL_messages_4 rfl (lv_at hl 0 rfl) ?_
  refine lv_iconst (v := 5) hx hb dL_messages_5 (by decide) ?_
  refine lv_icmp_ge (tgt := 30) hx hb dL_messages_6 (by decide) (fun c9 => absurd c9 (by decide)) (fun _ => ?_)
  refine lv_iload_n hx hb dL_messages_9 rfl (lv_at hl 1 rfl) ?_
  refine lv_aload_n hx hb dL_messages_10 rfl (lv_at hl 2 rfl) ?_
  refine lv_bipush (v := 115) hx hb dL_messages_11 (by decide) ?_
  refine va_ldcS hx hb hown hT0 dL_messages_13 ?_
  refine lv_iload_n hx hb dL_messages_15 rfl (lv_at hl 0 rfl) ?_
  refine y_top (show (0 : Int32) = nI 0 by decide) ?_
  refine y_callSi (va_runV (As := [.int (nI 0)]) (rest := [.int 115, .ref h, .int 0]) ⟨hx, hb, hml, hown, hts⟩ (c_J0_charAt l adK adV 0 0 (by decide) (by decide)) (cwV 1 hts gL_messages_J0_charAt_5068e rfl rfl rfl (by decide +kernel) ⟨Nat.le_of_ble_eq_true rfl, Nat.le_of_ble_eq_true rfl⟩) ⟨fun a U g mk q9 => ⟨q9.1, ySQ.moved (u := U) (U := U.calling g mk a) (Vm.Alike.refl U.vm) q9.2⟩, ySQ_recv (hSQ.kept (yO_k hS)) (i := 0) (by decide), fun U hU hW => ⟨rfl, by show ySQ adK adV U U.heap; rw [hU]; exact ySQ.moved hW.alike (hSQ.kept (yO_k hS))⟩⟩ rfl rfl hl.1 rfl (lv_room (Nat.le_of_ble_eq_true rfl)) dL_messages_16 ⟨show 0 ≤ 5 by omega, show 0 ≤ 30 by omega⟩) (fun r hr9 => ?_)
  subst hr9
  refine y_top (show (yTx 0).getD 0 0 = 104 by decide) ?_
  refine y_lro (vx_runSW (As := [.ref h, .int 115, .int 104]) (rest := [.int 0]) ⟨hx, hb, hml, hown, hts⟩ (c_cnt l hl9 G k h a c σ s.heap.size 104 hJ.1 (by decide)) (vx_cwSW 3 hts gL_messages_L_told rfl rfl rfl (by decide +kernel) ⟨Nat.le_of_ble_eq_true rfl, Nat.le_of_ble_eq_true rfl⟩) (yL_pre hS hV (yKeep hP0 (yO_k hS)) hK) rfl rfl hl.1 rfl (lv_room (Nat.le_of_ble_eq_true rfl)) dL_messages_19 ⟨show 0 + 1 ≤ 5 by omega, show 0 + 6 ≤ 30 by omega⟩) hS (fun r H1 locs1 hr9 hk9 hS1 => ?_)
  have hS := hS1
  clear hk9 hS1
  subst hr9
  refine lv_iadd hx hb dL_messages_22 ?_
  refine lv_istore_n (lv' := [(1, .int (0 + (f_cnt 104 σ))), (2, .int 0), (0, .ref h)]) hx hb dL_messages_23 rfl hl (by decide) rfl (fun ls hl => ?_)
  refine lv_iinc (v := 1) (lv' := [(2, .int 1), (1, .int (0 + (f_cnt 104 σ))), (0, .ref h)]) hx hb dL_messages_24 hl (k := 1) rfl (by decide) (by decide) rfl (fun ls hl => ?_)
  refine lv_goto (tgt := 4) hx hb dL_messages_27 (by decide) ?_
  refine lv_iload_n hx hb dL_messages_4 rfl (lv_at hl 0 rfl) ?_
  refine lv_iconst (v := 5) hx hb dL_messages_5 (by decide) ?_
  refine lv_icmp_ge (tgt := 30) hx hb dL_messages_6 (by decide) (fun c9 => absurd c9 (by decide)) (fun _ => ?_)
  refine lv_iload_n hx hb dL_messages_9 rfl (lv_at hl 1 rfl) ?_
  refine lv_aload_n hx hb dL_messages_10 rfl (lv_at hl 2 rfl) ?_
  refine lv_bipush (v := 115) hx hb dL_messages_11 (by decide) ?_
  refine va_ldcS hx hb hown hT0 dL_messages_13 ?_
  refine lv_iload_n hx hb dL_messages_15 rfl (lv_at hl 0 rfl) ?_
  refine y_top (show (1 : Int32) = nI 1 by decide) ?_
  refine y_callSi (va_runV (As := [.int (nI 1)]) (rest := [.int 115, .ref h, .int (0 + (f_cnt 104 σ))]) ⟨hx, hb, hml, hown, hts⟩ (c_J0_charAt l adK adV 0 1 (by decide) (by decide)) (cwV 1 hts gL_messages_J0_charAt_5068e rfl rfl rfl (by decide +kernel) ⟨Nat.le_of_ble_eq_true rfl, Nat.le_of_ble_eq_true rfl⟩) ⟨fun a U g mk q9 => ⟨q9.1, ySQ.moved (u := U) (U := U.calling g mk a) (Vm.Alike.refl U.vm) q9.2⟩, ySQ_recv (hSQ.kept (yO_k hS)) (i := 0) (by decide), fun U hU hW => ⟨rfl, by show ySQ adK adV U U.heap; rw [hU]; exact ySQ.moved hW.alike (hSQ.kept (yO_k hS))⟩⟩ rfl rfl hl.1 rfl (lv_room (Nat.le_of_ble_eq_true rfl)) dL_messages_16 ⟨show 0 + 1 ≤ 5 by omega, show 0 + 6 ≤ 30 by omega⟩) (fun r hr9 => ?_)
  subst hr9
  refine y_top (show (yTx 0).getD 1 0 = 119 by decide) ?_
  refine y_lro (vx_runSW (As := [.ref h, .int 115, .int 119]) (rest := [.int (0 + (f_cnt 104 σ))]) ⟨hx, hb, hml, hown, hts⟩ (c_cnt l hl9 G k h a c σ H1.size 119 hJ.1 (by decide)) (vx_cwSW 3 hts gL_messages_L_told rfl rfl rfl (by decide +kernel) ⟨Nat.le_of_ble_eq_true rfl, Nat.le_of_ble_eq_true rfl⟩) (yL_pre hS hV (yKeep hP0 (yO_k hS)) hK) rfl rfl hl.1 rfl (lv_room (Nat.le_of_ble_eq_true rfl)) dL_messages_19 ⟨show 0 + 1 + 1 ≤ 5 by omega, show 0 + 6 + 6 ≤ 30 by omega⟩) hS (fun r H1 locs1 hr9 hk9 hS1 => ?_)
  have hS := hS1
  clear hk9 hS1
  subst hr9
  refine lv_iadd hx hb dL_messages_22 ?_
  refine lv_istore_n (lv' := [(1, .int ((0 + (f_cnt 104 σ)) + (f_cnt 119 σ))), (2, .int 1), (0, .ref h)]) hx hb dL_messages_23 rfl hl (by decide) rfl (fun ls hl => ?_)
  refine lv_iinc (v := 2) (lv' := [(2, .int 2), (1, .int ((0 + (f_cnt 104 σ)) + (f_cnt 119 σ))), (0, .ref h)]) hx hb dL_messages_24 hl (k := 1) rfl (by decide) (by decide) rfl (fun ls hl => ?_)
  refine lv_goto (tgt := 4) hx hb dL_messages_27 (by decide) ?_
  refine lv_iload_n hx hb dL_messages_4 rfl (lv_at hl 0 rfl) ?_
  refine lv_iconst (v := 5) hx hb dL_messages_5 (by decide) ?_
  refine lv_icmp_ge (tgt := 30) hx hb dL_messages_6 (by decide) (fun c9 => absurd c9 (by decide)) (fun _ => ?_)
  refine lv_iload_n hx hb dL_messages_9 rfl (lv_at hl 1 rfl) ?_
  refine lv_aload_n hx hb dL_messages_10 rfl (lv_at hl 2 rfl) ?_
  refine lv_bipush (v := 115) hx hb dL_messages_11 (by decide) ?_
  refine va_ldcS hx hb hown hT0 dL_messages_13 ?_
  refine lv_iload_n hx hb dL_messages_15 rfl (lv_at hl 0 rfl) ?_
  refine y_top (show (2 : Int32) = nI 2 by decide) ?_
  refine y_callSi (va_runV (As := [.int (nI 2)]) (rest := [.int 115, .ref h, .int ((0 + (f_cnt 104 σ)) + (f_cnt 119 σ))]) ⟨hx, hb, hml, hown, hts⟩ (c_J0_charAt l adK adV 0 2 (by decide) (by decide)) (cwV 1 hts gL_messages_J0_charAt_5068e rfl rfl rfl (by decide +kernel) ⟨Nat.le_of_ble_eq_true rfl, Nat.le_of_ble_eq_true rfl⟩) ⟨fun a U g mk q9 => ⟨q9.1, ySQ.moved (u := U) (U := U.calling g mk a) (Vm.Alike.refl U.vm) q9.2⟩, ySQ_recv (hSQ.kept (yO_k hS)) (i := 0) (by decide), fun U hU hW => ⟨rfl, by show ySQ adK adV U U.heap; rw [hU]; exact ySQ.moved hW.alike (hSQ.kept (yO_k hS))⟩⟩ rfl rfl hl.1 rfl (lv_room (Nat.le_of_ble_eq_true rfl)) dL_messages_16 ⟨show 0 + 1 + 1 ≤ 5 by omega, show 0 + 6 + 6 ≤ 30 by omega⟩) (fun r hr9 => ?_)
  subst hr9
  refine y_top (show (yTx 0).getD 2 0 = 116 by decide) ?_
  refine y_lro (vx_runSW (As := [.ref h, .int 115, .int 116]) (rest := [.int ((0 + (f_cnt 104 σ)) + (f_cnt 119 σ))]) ⟨hx, hb, hml, hown, hts⟩ (c_cnt l hl9 G k h a c σ H1.size 116 hJ.1 (by decide)) (vx_cwSW 3 hts gL_messages_L_told rfl rfl rfl (by decide +kernel) ⟨Nat.le_of_ble_eq_true rfl, Nat.le_of_ble_eq_true rfl⟩) (yL_pre hS hV (yKeep hP0 (yO_k hS)) hK) rfl rfl hl.1 rfl (lv_room (Nat.le_of_ble_eq_true rfl)) dL_messages_19 ⟨show 0 + 1 + 1 + 1 ≤ 5 by omega, show 0 + 6 + 6 + 6 ≤ 30 by omega⟩) hS (fun r H1 locs1 hr9 hk9 hS1 => ?_)
  have hS := hS1
  clear hk9 hS1
  subst hr9
  refine lv_iadd hx hb dL_messages_22 ?_
  refine lv_istore_n (lv' := [(1, .int (((0 + (f_cnt 104 σ)) + (f_cnt 119 σ)) + (f_cnt 116 σ))), (2, .int 2), (0, .ref h)]) hx hb dL_messages_23 rfl hl (by decide) rfl (fun ls hl => ?_)
  refine lv_iinc (v := 3) (lv' := [(2, .int 3), (1, .int (((0 + (f_cnt 104 σ)) + (f_cnt 119 σ)) + (f_cnt 116 σ))), (0, .ref h)]) hx hb dL_messages_24 hl (k := 1) rfl (by decide) (by decide) rfl (fun ls hl => ?_)
  refine lv_goto (tgt := 4) hx hb dL_messages_27 (by decide) ?_
  refine lv_iload_n hx hb dL_messages_4 rfl (lv_at hl 0 rfl) ?_
  refine lv_iconst (v := 5) hx hb dL_messages_5 (by decide) ?_
  refine lv_icmp_ge (tgt := 30) hx hb dL_messages_6 (by decide) (fun c9 => absurd c9 (by decide)) (fun _ => ?_)
  refine lv_iload_n hx hb dL_messages_9 rfl (lv_at hl 1 rfl) ?_
  refine lv_aload_n hx hb dL_messages_10 rfl (lv_at hl 2 rfl) ?_
  refine lv_bipush (v := 115) hx hb dL_messages_11 (by decide) ?_
  refine va_ldcS hx hb hown hT0 dL_messages_13 ?_
  refine lv_iload_n hx hb dL_messages_15 rfl (lv_at hl 0 rfl) ?_
  refine y_top (show (3 : Int32) = nI 3 by decide) ?_
  refine y_callSi (va_runV (As := [.int (nI 3)]) (rest := [.int 115, .ref h, .int (((0 + (f_cnt 104 σ)) + (f_cnt 119 σ)) + (f_cnt 116 σ))]) ⟨hx, hb, hml, hown, hts⟩ (c_J0_charAt l adK adV 0 3 (by decide) (by decide)) (cwV 1 hts gL_messages_J0_charAt_5068e rfl rfl rfl (by decide +kernel) ⟨Nat.le_of_ble_eq_true rfl, Nat.le_of_ble_eq_true rfl⟩) ⟨fun a U g mk q9 => ⟨q9.1, ySQ.moved (u := U) (U := U.calling g mk a) (Vm.Alike.refl U.vm) q9.2⟩, ySQ_recv (hSQ.kept (yO_k hS)) (i := 0) (by decide), fun U hU hW => ⟨rfl, by show ySQ adK adV U U.heap; rw [hU]; exact ySQ.moved hW.alike (hSQ.kept (yO_k hS))⟩⟩ rfl rfl hl.1 rfl (lv_room (Nat.le_of_ble_eq_true rfl)) dL_messages_16 ⟨show 0 + 1 + 1 + 1 ≤ 5 by omega, show 0 + 6 + 6 + 6 ≤ 30 by omega⟩) (fun r hr9 => ?_)
  subst hr9
  refine y_top (show (yTx 0).getD 3 0 = 100 by decide) ?_
  refine y_lro (vx_runSW (As := [.ref h, .int 115, .int 100]) (rest := [.int (((0 + (f_cnt 104 σ)) + (f_cnt 119 σ)) + (f_cnt 116 σ))]) ⟨hx, hb, hml, hown, hts⟩ (c_cnt l hl9 G k h a c σ H1.size 100 hJ.1 (by decide)) (vx_cwSW 3 hts gL_messages_L_told rfl rfl rfl (by decide +kernel) ⟨Nat.le_of_ble_eq_true rfl, Nat.le_of_ble_eq_true rfl⟩) (yL_pre hS hV (yKeep hP0 (yO_k hS)) hK) rfl rfl hl.1 rfl (lv_room (Nat.le_of_ble_eq_true rfl)) dL_messages_19 ⟨show 0 + 1 + 1 + 1 + 1 ≤ 5 by omega, show 0 + 6 + 6 + 6 + 6 ≤ 30 by omega⟩) hS (fun r H1 locs1 hr9 hk9 hS1 => ?_)
  have hS := hS1
  clear hk9 hS1
  subst hr9
  refine lv_iadd hx hb dL_messages_22 ?_
  refine lv_istore_n (lv' := [(1, .int ((((0 + (f_cnt 104 σ)) + (f_cnt 119 σ)) + (f_cnt 116 σ)) + (f_cnt 100 σ))), (2, .int 3), (0, .ref h)]) hx hb dL_messages_23 rfl hl (by decide) rfl (fun ls hl => ?_)
  refine lv_iinc (v := 4) (lv' := [(2, .int 4), (1, .int ((((0 + (f_cnt 104 σ)) + (f_cnt 119 σ)) + (f_cnt 116 σ)) + (f_cnt 100 σ))), (0, .ref h)]) hx hb dL_messages_24 hl (k := 1) rfl (by decide) (by decide) rfl (fun ls hl => ?_)
  refine lv_goto (tgt := 4) hx hb dL_messages_27 (by decide) ?_
  refine lv_iload_n hx hb dL_messages_4 rfl (lv_at hl 0 rfl) ?_
  refine lv_iconst (v := 5) hx hb dL_messages_5 (by decide) ?_
  refine lv_icmp_ge (tgt := 30) hx hb dL_messages_6 (by decide) (fun c9 => absurd c9 (by decide)) (fun _ => ?_)
  refine lv_iload_n hx hb dL_messages_9 rfl (lv_at hl 1 rfl) ?_
  refine lv_aload_n hx hb dL_messages_10 rfl (lv_at hl 2 rfl) ?_
  refine lv_bipush (v := 115) hx hb dL_messages_11 (by decide) ?_
  refine va_ldcS hx hb hown hT0 dL_messages_13 ?_
  refine lv_iload_n hx hb dL_messages_15 rfl (lv_at hl 0 rfl) ?_
  refine y_top (show (4 : Int32) = nI 4 by decide) ?_
  refine y_callSi (va_runV (As := [.int (nI 4)]) (rest := [.int 115, .ref h, .int ((((0 + (f_cnt 104 σ)) + (f_cnt 119 σ)) + (f_cnt 116 σ)) + (f_cnt 100 σ))]) ⟨hx, hb, hml, hown, hts⟩ (c_J0_charAt l adK adV 0 4 (by decide) (by decide)) (cwV 1 hts gL_messages_J0_charAt_5068e rfl rfl rfl (by decide +kernel) ⟨Nat.le_of_ble_eq_true rfl, Nat.le_of_ble_eq_true rfl⟩) ⟨fun a U g mk q9 => ⟨q9.1, ySQ.moved (u := U) (U := U.calling g mk a) (Vm.Alike.refl U.vm) q9.2⟩, ySQ_recv (hSQ.kept (yO_k hS)) (i := 0) (by decide), fun U hU hW => ⟨rfl, by show ySQ adK adV U U.heap; rw [hU]; exact ySQ.moved hW.alike (hSQ.kept (yO_k hS))⟩⟩ rfl rfl hl.1 rfl (lv_room (Nat.le_of_ble_eq_true rfl)) dL_messages_16 ⟨show 0 + 1 + 1 + 1 + 1 ≤ 5 by omega, show 0 + 6 + 6 + 6 + 6 ≤ 30 by omega⟩) (fun r hr9 => ?_)
  subst hr9
  refine y_top (show (yTx 0).getD 4 0 = 120 by decide) ?_
  refine y_lro (vx_runSW (As := [.ref h, .int 115, .int 120]) (rest := [.int ((((0 + (f_cnt 104 σ)) + (f_cnt 119 σ)) + (f_cnt 116 σ)) + (f_cnt 100 σ))]) ⟨hx, hb, hml, hown, hts⟩ (c_cnt l hl9 G k h a c σ H1.size 120 hJ.1 (by decide)) (vx_cwSW 3 hts gL_messages_L_told rfl rfl rfl (by decide +kernel) ⟨Nat.le_of_ble_eq_true rfl, Nat.le_of_ble_eq_true rfl⟩) (yL_pre hS hV (yKeep hP0 (yO_k hS)) hK) rfl rfl hl.1 rfl (lv_room (Nat.le_of_ble_eq_true rfl)) dL_messages_19 ⟨show 0 + 1 + 1 + 1 + 1 + 1 ≤ 5 by omega, show 0 + 6 + 6 + 6 + 6 + 6 ≤ 30 by omega⟩) hS (fun r H1 locs1 hr9 hk9 hS1 => ?_)
  have hS := hS1
  clear hk9 hS1
  subst hr9
  refine lv_iadd hx hb dL_messages_22 ?_
  refine lv_istore_n (lv' := [(1, .int (((((0 + (f_cnt 104 σ)) + (f_cnt 119 σ)) + (f_cnt 116 σ)) + (f_cnt 100 σ)) + (f_cnt 120 σ))), (2, .int 4), (0, .ref h)]) hx hb dL_messages_23 rfl hl (by decide) rfl (fun ls hl => ?_)
  refine lv_iinc (v := 5) (lv' := [(2, .int 5), (1, .int (((((0 + (f_cnt 104 σ)) + (f_cnt 119 σ)) + (f_cnt 116 σ)) + (f_cnt 100 σ)) + (f_cnt 120 σ))), (0, .ref h)]) hx hb dL_messages_24 hl (k := 1) rfl (by decide) (by decide) rfl (fun ls hl => ?_)
  refine lv_goto (tgt := 4) hx hb dL_messages_27 (by decide) ?_
  refine lv_iload_n hx hb dL_messages_4 rfl (lv_at hl 0 rfl) ?_
  refine lv_iconst (v := 5) hx hb dL_messages_5 (by decide) ?_
  refine lv_icmp_ge (tgt := 30) hx hb dL_messages_6 (by decide) (fun _ => ?_) (fun c9 => absurd c9 (by decide))
  refine lv_iload_n hx hb dL_messages_30 rfl (lv_at hl 1 rfl) ?_
  refine W.widen (k := 5) (n := 30) (show 0 + 1 + 1 + 1 + 1 + 1 ≤ 5 by omega) (show 0 + 6 + 6 + 6 + 6 + 6 ≤ 30 by omega) ?_
  exact W.iret (v := (((((0 + (f_cnt 104 σ)) + (f_cnt 119 σ)) + (f_cnt 116 σ)) + (f_cnt 100 σ)) + (f_cnt 120 σ))) hx hb hr (fun τ hτ hW => ⟨⟨_, (), rfl, (J_many hJ), trivial⟩, hS.F hτ⟩) hS.2.2 dL_messages_31

set_option maxHeartbeats 8000000 in
set_option maxRecDepth 100000 in
theorem c_sum (l : Launch) (hl9 : l.stackTraces = false) (G : va_G) (k : Nat → ClassId) (h : Nat) (a c : Nat → Nat) (σ : SX) (sz : Nat) (hJ : yJs σ) : Met l yL_sum wsL_sum ({ frames := 9, cells := 600, slots := 3600, locals := 156 }) (va_Pc [.ref h] (yL G (yT k) (WS k h a c σ) sz)) (va_Ql (fun (r : Int64) (_ : Unit) => r = f_sum σ) (fun _ _ => True) (fun q : Nat => sz ≤ q)) 600 3600 (fun q : Nat => sz ≤ q) := by
  refine Met.ofW (cc := cL_sum) (maxL := 5) (ret := (some .long)) (by decide) rfl ?_
  intro p e s m args below meth c_ s₁ B hml hv
  obtain ⟨rfl, hsz, hP0, hK, hV⟩ := hv
  have hx := B.exec
  have hb := B.bytes
  have hr := B.returns
  have hts := atoms_spec (ws := wsL_sum) B.pre
  have hown : s.vm.findClass RL = some m.cls := findClass_of_methodNamed B.named
  have hlocks := B.notSynchronized
  subst hsz
  have hS : yO s s.heap [] := yO_rf
  have hn0 : σ.2.1 ≤ 8 := J_n0 hJ
  have hn1 : σ.2.2.2.2.1 ≤ 80 := J_n1 hJ
  have hl := lv_entry ([.ref h]) (n := 5) (Nat.le_of_ble_eq_true rfl)
  rw [lg_entry_eq]
  generalize (lg_sl ([.ref h]) ++ List.replicate (5 - (lg_sl ([.ref h])).length) Slot.unset).toArray = ls at hl ⊢
  have hl : lv_has ls 5 [(0, .ref h)] := hl
  refine lv_aload_n hx hb dL_sum_0 rfl (lv_at hl 0 rfl) ?_
  refine y_roV (As := []) (rest := []) ⟨hx, hb, hml, hown, hts⟩ (c_X2_day l G k h a c σ.1 σ.2.1 σ.2.2.1 σ.2.2.2.1 σ.2.2.2.2.1 σ.2.2.2.2.2) (cwV 0 hts gL_sum_X2_day rfl rfl rfl (by decide +kernel) ⟨Nat.le_of_ble_eq_true rfl, Nat.le_of_ble_eq_true rfl⟩) hK (yKeep hP0 (yO_k hS)) (va_recv hK (yKeep hP0 (yO_k hS)) (ci := 4) (q0 := 0) rfl rfl) rfl hl.1 rfl (Nat.le_of_ble_eq_true rfl) dL_sum_1 ⟨show 0 ≤ 600 by omega, show 0 ≤ 3600 by omega⟩ (fun r hr9 => ?_)
  subst hr9
  refine lv_i2l (v := (nI σ.2.2.2.2.2).toInt64) hx hb dL_sum_4 rfl ?_
  refine lv_lstore_n (lv' := [(1, .long ((nI σ.2.2.2.2.2).toInt64)), (0, .ref h)]) hx hb dL_sum_5 rfl hl (by decide) rfl (fun ls hl => ?_)
  refine lv_iconst (v := 0) hx hb dL_sum_6 (by decide) ?_
  refine lv_istore_n (lv' := [(3, .int 0), (1, .long ((nI σ.2.2.2.2.2).toInt64)), (0, .ref h)]) hx hb dL_sum_7 rfl hl (by decide) rfl (fun ls hl => ?_)
  have hl : lv_has ls 5 [(3, .int (nI 0)), (1, .long ((nI σ.2.2.2.2.2).toInt64)), (0, .ref h)] := lv_sub hl [0, 1, 2] rfl
  refine y_loopC (σ := Nat × Int64) (fun r xσ cells slots H locs ls => xσ.1 + r = 8 ∧ sC σ r xσ.1 xσ.2 = sC σ 8 0 ((nI σ.2.2.2.2.2).toInt64) ∧ yO s H locs ∧ cells + (4 * r + 565) ≤ 600 ∧ slots + (24 * r + 3390) ≤ 3600 ∧ lv_has ls 5 [(3, .int (nI xσ.1)), (1, .long xσ.2), (0, .ref h)]) (fun r xσ cells slots H locs ls hI ih8 => ?_) 8 (0, (nI σ.2.2.2.2.2).toInt64) _ _ _ _ _ ⟨rfl, rfl, hS, (by (try dsimp only); omega), (by (try dsimp only); omega), hl⟩
  obtain ⟨i, acc⟩ := xσ
  obtain ⟨hi, hv, hS, hb1, hb2, hl⟩ := hI
  dsimp only at hi hv hl
  refine lv_iload_n hx hb dL_sum_8 rfl (lv_at hl 0 rfl) ?_
  refine lv_bipush (v := 8) hx hb dL_sum_9 (by decide) ?_
  refine lv_icmp_ge (tgt := 58) hx hb dL_sum_11 (by decide) (fun c11 => ?_) (fun c11 => ?_)
  · skip
    replace c11 : 8 ≤ i := (nI_leI (a := 8) (b := i) (by omega) (by omega)).mp c11
    obtain rfl : r = 0 := by omega
    have hv8 : acc = sC σ 8 0 ((nI σ.2.2.2.2.2).toInt64) := hv
    refine lv_aload_n hx hb dL_sum_58 rfl (lv_at hl 2 rfl) ?_
    refine y_lro (va_runS (As := [.ref h]) (rest := []) ⟨hx, hb, hml, hown, hts⟩ (c_messages l hl9 G k h a c σ H.size hJ) (va_cwS 1 hts gL_sum_L_messages rfl rfl rfl (by decide +kernel) ⟨Nat.le_of_ble_eq_true rfl, Nat.le_of_ble_eq_true rfl⟩) (yL_pre hS hV (yKeep hP0 (yO_k hS)) hK) rfl rfl hl.1 rfl (lv_room (Nat.le_of_ble_eq_true rfl)) dL_sum_59 ⟨show cells + 5 ≤ 600 by omega, show slots + 30 ≤ 3600 by omega⟩) hS (fun r H1 locs1 hr9 hk9 hS1 => ?_)
    have hS := hS1
    clear hk9 hS1
    subst hr9
    refine lv_istore_n (lv' := [(3, .int (nI σ.2.2.2.2.1)), (1, .long acc), (0, .ref h)]) hx hb dL_sum_62 rfl hl (by decide) rfl (fun ls hl => ?_)
    refine lv_iconst (v := 0) hx hb dL_sum_63 (by decide) ?_
    refine lv_istore (lv' := [(4, .int 0), (3, .int (nI σ.2.2.2.2.1)), (1, .long acc), (0, .ref h)]) hx hb dL_sum_64 hl (by decide) rfl (fun ls hl => ?_)
    have hl : lv_has ls 5 [(4, .int (nI 0)), (3, .int (nI σ.2.2.2.2.1)), (1, .long acc), (0, .ref h)] := lv_sub hl [0, 1, 2, 3] rfl
    refine y_loopC (σ := Nat × Int64) (fun r xσ cells slots H locs ls => xσ.1 + r = σ.2.2.2.2.1 ∧ sM σ r xσ.1 xσ.2 = sM σ σ.2.2.2.2.1 0 acc ∧ yO s H locs ∧ cells + (7 * r) ≤ 600 ∧ slots + (42 * r) ≤ 3600 ∧ lv_has ls 5 [(4, .int (nI xσ.1)), (3, .int (nI σ.2.2.2.2.1)), (1, .long xσ.2), (0, .ref h)]) (fun r xσ cells slots H locs ls hI ih66 => ?_) σ.2.2.2.2.1 (0, acc) _ _ _ _ _ ⟨(by omega), rfl, hS, (by (try dsimp only); omega), (by (try dsimp only); omega), hl⟩
    obtain ⟨j, ac2⟩ := xσ
    obtain ⟨hj, hw, hS, hb1, hb2, hl⟩ := hI
    dsimp only at hj hw hl
    refine lv_iload hx hb dL_sum_66 (lv_at hl 0 rfl) ?_
    refine lv_iload_n hx hb dL_sum_68 rfl (lv_at hl 1 rfl) ?_
    refine lv_icmp_ge (tgt := 145) hx hb dL_sum_69 (by decide) (fun c69 => ?_) (fun c69 => ?_)
    · skip
      replace c69 : σ.2.2.2.2.1 ≤ j := (nI_leI (a := σ.2.2.2.2.1) (b := j) (by omega) (by omega)).mp c69
      obtain rfl : r = 0 := by omega
      have hw8 : ac2 = sM σ σ.2.2.2.2.1 0 acc := hw
      refine lv_ldc2 (v := 31) hx hb hown (hts (.constantLong RL 126 31) (by decide +kernel)) dL_sum_145 ?_
      refine lv_lload_n hx hb dL_sum_148 rfl (lv_at hl 2 rfl) ?_
      refine lv_lmul hx hb dL_sum_149 ?_
      refine lv_iload_n hx hb dL_sum_150 rfl (lv_at hl 1 rfl) ?_
      refine lv_i2l (v := (nI σ.2.2.2.2.1).toInt64) hx hb dL_sum_151 rfl ?_
      refine lv_ladd hx hb dL_sum_152 ?_
      refine W.widen (k := 600) (n := 3600) (show cells ≤ 600 by omega) (show slots ≤ 3600 by omega) ?_
      exact W.lret (v := ((31 * ac2) + ((nI σ.2.2.2.2.1).toInt64))) hx hb hr (fun τ hτ hW => ⟨⟨_, (), rfl, (by unfold f_sum; rw [hw8, hv8]), trivial⟩, hS.F hτ⟩) hS.2.2 dL_sum_153
    · skip
      have c69 : j < σ.2.2.2.2.1 := Nat.not_le.mp (fun h9 => c69 ((nI_leI (a := σ.2.2.2.2.1) (b := j) (by omega) (by omega)).mpr h9))
      obtain ⟨r1, rfl⟩ : ∃ z, r = z + 1 := ⟨r - 1, by omega⟩
      refine lv_ldc2 (v := 31) hx hb hown (hts (.constantLong RL 126 31) (by decide +kernel)) dL_sum_72 ?_
      refine lv_lload_n hx hb dL_sum_75 rfl (lv_at hl 2 rfl) ?_
      refine lv_lmul hx hb dL_sum_76 ?_
      refine lv_aload_n hx hb dL_sum_77 rfl (lv_at hl 3 rfl) ?_
      refine lv_iload hx hb dL_sum_78 (lv_at hl 0 rfl) ?_
      refine lv_iconst (v := 0) hx hb dL_sum_80 (by decide) ?_
      refine y_lro (vx_runSW (As := [.ref h, .int (nI j), .int 0]) (rest := [.long (31 * ac2)]) ⟨hx, hb, hml, hown, hts⟩ (c_msg_0 l hl9 G k h a c σ H.size (nI j) hJ.1) (vx_cwSW 3 hts gL_sum_L_message rfl rfl rfl (by decide +kernel) ⟨Nat.le_of_ble_eq_true rfl, Nat.le_of_ble_eq_true rfl⟩) (yL_pre hS hV (yKeep hP0 (yO_k hS)) hK) rfl rfl hl.1 rfl (lv_room (Nat.le_of_ble_eq_true rfl)) dL_sum_81 ⟨show cells + 1 ≤ 600 by omega, show slots + 6 ≤ 3600 by omega⟩) hS (fun r H1 locs1 hr9 hk9 hS1 => ?_)
      have hS := hS1
      clear hk9 hS1
      subst hr9
      refine lv_i2l (v := (f_msg 0 (nI j) σ).toInt64) hx hb dL_sum_84 rfl ?_
      refine lv_ladd hx hb dL_sum_85 ?_
      refine lv_ldc2 (v := 3) hx hb hown (hts (.constantLong RL 128 3) (by decide +kernel)) dL_sum_86 ?_
      refine lv_aload_n hx hb dL_sum_89 rfl (lv_at hl 3 rfl) ?_
      refine lv_iload hx hb dL_sum_90 (lv_at hl 0 rfl) ?_
      refine lv_iconst (v := 1) hx hb dL_sum_92 (by decide) ?_
      refine y_lro (vx_runSW (As := [.ref h, .int (nI j), .int 1]) (rest := [.long 3, .long ((31 * ac2) + ((f_msg 0 (nI j) σ).toInt64))]) ⟨hx, hb, hml, hown, hts⟩ (c_msg_1 l hl9 G k h a c σ H1.size (nI j) hJ.1) (vx_cwSW 3 hts gL_sum_L_message rfl rfl rfl (by decide +kernel) ⟨Nat.le_of_ble_eq_true rfl, Nat.le_of_ble_eq_true rfl⟩) (yL_pre hS hV (yKeep hP0 (yO_k hS)) hK) rfl rfl hl.1 rfl (lv_room (Nat.le_of_ble_eq_true rfl)) dL_sum_93 ⟨show cells + 1 + 1 ≤ 600 by omega, show slots + 6 + 6 ≤ 3600 by omega⟩) hS (fun r H1 locs1 hr9 hk9 hS1 => ?_)
      have hS := hS1
      clear hk9 hS1
      subst hr9
      refine lv_i2l (v := (f_msg 1 (nI j) σ).toInt64) hx hb dL_sum_96 rfl ?_
      refine lv_lmul hx hb dL_sum_97 ?_
      refine lv_ladd hx hb dL_sum_98 ?_
      refine lv_ldc2 (v := 5) hx hb hown (hts (.constantLong RL 130 5) (by decide +kernel)) dL_sum_99 ?_
      refine lv_aload_n hx hb dL_sum_102 rfl (lv_at hl 3 rfl) ?_
      refine lv_iload hx hb dL_sum_103 (lv_at hl 0 rfl) ?_
      refine lv_iconst (v := 2) hx hb dL_sum_105 (by decide) ?_
      refine y_lro (vx_runSW (As := [.ref h, .int (nI j), .int 2]) (rest := [.long 5, .long (((31 * ac2) + ((f_msg 0 (nI j) σ).toInt64)) + (3 * ((f_msg 1 (nI j) σ).toInt64)))]) ⟨hx, hb, hml, hown, hts⟩ (c_msg_2 l hl9 G k h a c σ H1.size (nI j) hJ.1) (vx_cwSW 3 hts gL_sum_L_message rfl rfl rfl (by decide +kernel) ⟨Nat.le_of_ble_eq_true rfl, Nat.le_of_ble_eq_true rfl⟩) (yL_pre hS hV (yKeep hP0 (yO_k hS)) hK) rfl rfl hl.1 rfl (lv_room (Nat.le_of_ble_eq_true rfl)) dL_sum_106 ⟨show cells + 1 + 1 + 1 ≤ 600 by omega, show slots + 6 + 6 + 6 ≤ 3600 by omega⟩) hS (fun r H1 locs1 hr9 hk9 hS1 => ?_)
      have hS := hS1
      clear hk9 hS1
      subst hr9
      refine lv_i2l (v := (f_msg 2 (nI j) σ).toInt64) hx hb dL_sum_109 rfl ?_
      refine lv_lmul hx hb dL_sum_110 ?_
      refine lv_ladd hx hb dL_sum_111 ?_
      refine lv_ldc2 (v := 7) hx hb hown (hts (.constantLong RL 139 7) (by decide +kernel)) dL_sum_112 ?_
      refine lv_aload_n hx hb dL_sum_115 rfl (lv_at hl 3 rfl) ?_
      refine lv_iload hx hb dL_sum_116 (lv_at hl 0 rfl) ?_
      refine lv_iconst (v := 3) hx hb dL_sum_118 (by decide) ?_
      refine y_lro (vx_runSW (As := [.ref h, .int (nI j), .int 3]) (rest := [.long 7, .long ((((31 * ac2) + ((f_msg 0 (nI j) σ).toInt64)) + (3 * ((f_msg 1 (nI j) σ).toInt64))) + (5 * ((f_msg 2 (nI j) σ).toInt64)))]) ⟨hx, hb, hml, hown, hts⟩ (c_msg_3 l hl9 G k h a c σ H1.size (nI j) hJ.1) (vx_cwSW 3 hts gL_sum_L_message rfl rfl rfl (by decide +kernel) ⟨Nat.le_of_ble_eq_true rfl, Nat.le_of_ble_eq_true rfl⟩) (yL_pre hS hV (yKeep hP0 (yO_k hS)) hK) rfl rfl hl.1 rfl (lv_room (Nat.le_of_ble_eq_true rfl)) dL_sum_119 ⟨show cells + 1 + 1 + 1 + 2 ≤ 600 by omega, show slots + 6 + 6 + 6 + 12 ≤ 3600 by omega⟩) hS (fun r H1 locs1 hr9 hk9 hS1 => ?_)
      have hS := hS1
      clear hk9 hS1
      subst hr9
      refine lv_i2l (v := (f_msg 3 (nI j) σ).toInt64) hx hb dL_sum_122 rfl ?_
      refine lv_lmul hx hb dL_sum_123 ?_
      refine lv_ladd hx hb dL_sum_124 ?_
      refine lv_ldc2 (v := 11) hx hb hown (hts (.constantLong RL 141 11) (by decide +kernel)) dL_sum_125 ?_
      refine lv_aload_n hx hb dL_sum_128 rfl (lv_at hl 3 rfl) ?_
      refine lv_iload hx hb dL_sum_129 (lv_at hl 0 rfl) ?_
      refine lv_iconst (v := 4) hx hb dL_sum_131 (by decide) ?_
      refine y_lro (vx_runSW (As := [.ref h, .int (nI j), .int 4]) (rest := [.long 11, .long (((((31 * ac2) + ((f_msg 0 (nI j) σ).toInt64)) + (3 * ((f_msg 1 (nI j) σ).toInt64))) + (5 * ((f_msg 2 (nI j) σ).toInt64))) + (7 * ((f_msg 3 (nI j) σ).toInt64)))]) ⟨hx, hb, hml, hown, hts⟩ (c_msg_4 l hl9 G k h a c σ H1.size (nI j) hJ.1) (vx_cwSW 3 hts gL_sum_L_message rfl rfl rfl (by decide +kernel) ⟨Nat.le_of_ble_eq_true rfl, Nat.le_of_ble_eq_true rfl⟩) (yL_pre hS hV (yKeep hP0 (yO_k hS)) hK) rfl rfl hl.1 rfl (lv_room (Nat.le_of_ble_eq_true rfl)) dL_sum_132 ⟨show cells + 1 + 1 + 1 + 2 + 2 ≤ 600 by omega, show slots + 6 + 6 + 6 + 12 + 12 ≤ 3600 by omega⟩) hS (fun r H1 locs1 hr9 hk9 hS1 => ?_)
      have hS := hS1
      clear hk9 hS1
      subst hr9
      refine lv_i2l (v := (f_msg 4 (nI j) σ).toInt64) hx hb dL_sum_135 rfl ?_
      refine lv_lmul hx hb dL_sum_136 ?_
      refine lv_ladd hx hb dL_sum_137 ?_
      refine lv_lstore_n (lv' := [(1, .long ((((((31 * ac2) + ((f_msg 0 (nI j) σ).toInt64)) + (3 * ((f_msg 1 (nI j) σ).toInt64))) + (5 * ((f_msg 2 (nI j) σ).toInt64))) + (7 * ((f_msg 3 (nI j) σ).toInt64))) + (11 * ((f_msg 4 (nI j) σ).toInt64)))), (4, .int (nI j)), (3, .int (nI σ.2.2.2.2.1)), (0, .ref h)]) hx hb dL_sum_138 rfl hl (by decide) rfl (fun ls hl => ?_)
      refine lv_iinc (v := (nI (j + 1))) (lv' := [(4, .int (nI (j + 1))), (1, .long ((((((31 * ac2) + ((f_msg 0 (nI j) σ).toInt64)) + (3 * ((f_msg 1 (nI j) σ).toInt64))) + (5 * ((f_msg 2 (nI j) σ).toInt64))) + (7 * ((f_msg 3 (nI j) σ).toInt64))) + (11 * ((f_msg 4 (nI j) σ).toInt64)))), (3, .int (nI σ.2.2.2.2.1)), (0, .ref h)]) hx hb dL_sum_139 hl (k := 1) rfl (nI_1 j) (by decide) rfl (fun ls hl => ?_)
      refine lv_goto (tgt := 66) hx hb dL_sum_142 (by decide) ?_
      exact ih66 r1 (j + 1, (((((31 * ac2) + ((f_msg 0 (nI j) σ).toInt64)) + (3 * ((f_msg 1 (nI j) σ).toInt64))) + (5 * ((f_msg 2 (nI j) σ).toInt64))) + (7 * ((f_msg 3 (nI j) σ).toInt64))) + (11 * ((f_msg 4 (nI j) σ).toInt64))) _ _ _ _ _ (by omega) ⟨(by omega), hw, hS, (by (try dsimp only); omega), (by (try dsimp only); omega), lv_sub hl [0, 2, 1, 3] rfl⟩
  · skip
    have c11 : i < 8 := Nat.not_le.mp (fun h9 => c11 ((nI_leI (a := 8) (b := i) (by omega) (by omega)).mpr h9))
    obtain ⟨r1, rfl⟩ : ∃ z, r = z + 1 := ⟨r - 1, by omega⟩
    refine lv_ldc2 (v := 31) hx hb hown (hts (.constantLong RL 126 31) (by decide +kernel)) dL_sum_14 ?_
    refine lv_lload_n hx hb dL_sum_17 rfl (lv_at hl 1 rfl) ?_
    refine lv_lmul hx hb dL_sum_18 ?_
    refine lv_aload_n hx hb dL_sum_19 rfl (lv_at hl 2 rfl) ?_
    refine lv_iload_n hx hb dL_sum_20 rfl (lv_at hl 0 rfl) ?_
    refine lv_iconst (v := 0) hx hb dL_sum_21 (by decide) ?_
    refine y_lro (vx_runSW (As := [.ref h, .int (nI i), .int 0]) (rest := [.long (31 * acc)]) ⟨hx, hb, hml, hown, hts⟩ (c_of_0 l hl9 G k h a c σ H.size (nI i) hJ.1) (vx_cwSW 3 hts gL_sum_L_of rfl rfl rfl (by decide +kernel) ⟨Nat.le_of_ble_eq_true rfl, Nat.le_of_ble_eq_true rfl⟩) (yL_pre hS hV (yKeep hP0 (yO_k hS)) hK) rfl rfl hl.1 rfl (lv_room (Nat.le_of_ble_eq_true rfl)) dL_sum_22 ⟨show cells + 1 ≤ 600 by omega, show slots + 6 ≤ 3600 by omega⟩) hS (fun r H1 locs1 hr9 hk9 hS1 => ?_)
    have hS := hS1
    clear hk9 hS1
    subst hr9
    refine lv_i2l (v := (f_of 0 (nI i) σ).toInt64) hx hb dL_sum_25 rfl ?_
    refine lv_ladd hx hb dL_sum_26 ?_
    refine lv_ldc2 (v := 3) hx hb hown (hts (.constantLong RL 128 3) (by decide +kernel)) dL_sum_27 ?_
    refine lv_aload_n hx hb dL_sum_30 rfl (lv_at hl 2 rfl) ?_
    refine lv_iload_n hx hb dL_sum_31 rfl (lv_at hl 0 rfl) ?_
    refine lv_iconst (v := 1) hx hb dL_sum_32 (by decide) ?_
    refine y_lro (vx_runSW (As := [.ref h, .int (nI i), .int 1]) (rest := [.long 3, .long ((31 * acc) + ((f_of 0 (nI i) σ).toInt64))]) ⟨hx, hb, hml, hown, hts⟩ (c_of_1 l hl9 G k h a c σ H1.size (nI i) hJ.1) (vx_cwSW 3 hts gL_sum_L_of rfl rfl rfl (by decide +kernel) ⟨Nat.le_of_ble_eq_true rfl, Nat.le_of_ble_eq_true rfl⟩) (yL_pre hS hV (yKeep hP0 (yO_k hS)) hK) rfl rfl hl.1 rfl (lv_room (Nat.le_of_ble_eq_true rfl)) dL_sum_33 ⟨show cells + 1 + 1 ≤ 600 by omega, show slots + 6 + 6 ≤ 3600 by omega⟩) hS (fun r H1 locs1 hr9 hk9 hS1 => ?_)
    have hS := hS1
    clear hk9 hS1
    subst hr9
    refine lv_i2l (v := (f_of 1 (nI i) σ).toInt64) hx hb dL_sum_36 rfl ?_
    refine lv_lmul hx hb dL_sum_37 ?_
    refine lv_ladd hx hb dL_sum_38 ?_
    refine lv_ldc2 (v := 5) hx hb hown (hts (.constantLong RL 130 5) (by decide +kernel)) dL_sum_39 ?_
    refine lv_aload_n hx hb dL_sum_42 rfl (lv_at hl 2 rfl) ?_
    refine lv_iload_n hx hb dL_sum_43 rfl (lv_at hl 0 rfl) ?_
    refine lv_iconst (v := 3) hx hb dL_sum_44 (by decide) ?_
    refine y_lro (vx_runSW (As := [.ref h, .int (nI i), .int 3]) (rest := [.long 5, .long (((31 * acc) + ((f_of 0 (nI i) σ).toInt64)) + (3 * ((f_of 1 (nI i) σ).toInt64)))]) ⟨hx, hb, hml, hown, hts⟩ (c_of_3 l hl9 G k h a c σ H1.size (nI i) hJ.1) (vx_cwSW 3 hts gL_sum_L_of rfl rfl rfl (by decide +kernel) ⟨Nat.le_of_ble_eq_true rfl, Nat.le_of_ble_eq_true rfl⟩) (yL_pre hS hV (yKeep hP0 (yO_k hS)) hK) rfl rfl hl.1 rfl (lv_room (Nat.le_of_ble_eq_true rfl)) dL_sum_45 ⟨show cells + 1 + 1 + 2 ≤ 600 by omega, show slots + 6 + 6 + 12 ≤ 3600 by omega⟩) hS (fun r H1 locs1 hr9 hk9 hS1 => ?_)
    have hS := hS1
    clear hk9 hS1
    subst hr9
    refine lv_i2l (v := (f_of 3 (nI i) σ).toInt64) hx hb dL_sum_48 rfl ?_
    refine lv_lmul hx hb dL_sum_49 ?_
    refine lv_ladd hx hb dL_sum_50 ?_
    refine lv_lstore_n (lv' := [(1, .long ((((31 * acc) + ((f_of 0 (nI i) σ).toInt64)) + (3 * ((f_of 1 (nI i) σ).toInt64))) + (5 * ((f_of 3 (nI i) σ).toInt64)))), (3, .int (nI i)), (0, .ref h)]) hx hb dL_sum_51 rfl hl (by decide) rfl (fun ls hl => ?_)
    refine lv_iinc (v := (nI (i + 1))) (lv' := [(3, .int (nI (i + 1))), (1, .long ((((31 * acc) + ((f_of 0 (nI i) σ).toInt64)) + (3 * ((f_of 1 (nI i) σ).toInt64))) + (5 * ((f_of 3 (nI i) σ).toInt64)))), (0, .ref h)]) hx hb dL_sum_52 hl (k := 1) rfl (nI_1 i) (by decide) rfl (fun ls hl => ?_)
    refine lv_goto (tgt := 8) hx hb dL_sum_55 (by decide) ?_
    exact ih8 r1 (i + 1, (((31 * acc) + ((f_of 0 (nI i) σ).toInt64)) + (3 * ((f_of 1 (nI i) σ).toInt64))) + (5 * ((f_of 3 (nI i) σ).toInt64))) _ _ _ _ _ (by omega) ⟨(by omega), hv, hS, (by (try dsimp only); omega), (by (try dsimp only); omega), lv_sub hl [0, 1, 2] rfl⟩
