set_option maxHeartbeats 4000000 in
set_option maxRecDepth 100000 in
theorem c_X3_adds (l : Launch) (G : va_G) (k : Nat → ClassId) (a : Nat → Nat) (C : Nat → Nat → Int32) (n0 : Nat) (M : Nat → Nat → Int32) (n1 : Nat) (d : Nat) (th : Int32) (sz : Nat) (q key kd cs ct t : Int32) (hND : va_D (fun _ => True) (W3 k a C n0 M n1 d th)) (hn : n1 < 80) (hkd : vp_nar .char kd = kd) : Met l yX3_adds wsX3_adds ({ frames := 0, cells := 0, slots := 0, locals := 0 }) (va_Pc [.ref (a 0), .int q, .int key, .int kd, .int cs, .int ct, .int t] (yBs G (yT k) (W3 k a C n0 M n1 d th) sz)) (va_Qi (fun (r : Int32) (_ : Unit) => r = nI n1) (fun _ τ => va_P G vwCl (W3 k a C n0 (mad2 M n1 q key kd cs ct t (if cs < nI n0 then 119 else 104)) (n1 + 1) d th) τ.heap) (va_A (W3 k a C n0 M n1 d th) sz)) 0 0 (va_A (W3 k a C n0 M n1 d th) sz) := by
  refine Met.ofW (cc := cX3_adds) (maxL := 7) (ret := (some .int)) (by decide) rfl ?_
  intro p e s m args below meth c_ s₁ B hml hv
  obtain ⟨rfl, hsz, hP, hK⟩ := hv
  have hx := B.exec
  have hb := B.bytes
  have hr := B.returns
  have hts := atoms_spec (ws := wsX3_adds) B.pre
  have hown : s.vm.findClass RX3 = some m.cls := findClass_of_methodNamed B.named
  have hlocks := B.notSynchronized
  have hsz0 : (8 : Nat) < 2 ^ 31 := by decide
  have hsz1 : (80 : Nat) < 2 ^ 31 := by decide
  subst hsz
  have hD := hND.self (sz := s.heap.size)
  generalize hAe : va_A (W3 k a C n0 M n1 d th) s.heap.size = A at hD ⊢
  have hA : ∀ q : Nat, s.heap.size ≤ q → A q := fun q h => by rw [← hAe]; exact Or.inr h
  have hS : va_S A s.heap s.heap [] := va_S.rf
  have hinX3 : ∀ w ∈ u_ws RX3 TX3 19, w ∈ wsX3_adds := by decide +kernel
  have fl26 := hts (.fieldLink RX3 26 "DunningDeskModel" "queues" "[I") (by decide +kernel)
  have fl68 := hts (.fieldLink RX3 68 "DunningDeskModel" "messages" "I") (by decide +kernel)
  have fl29 := hts (.fieldLink RX3 29 "DunningDeskModel" "keys" "[I") (by decide +kernel)
  have fl32 := hts (.fieldLink RX3 32 "DunningDeskModel" "kinds" "[C") (by decide +kernel)
  have fl36 := hts (.fieldLink RX3 36 "DunningDeskModel" "caseOf" "[I") (by decide +kernel)
  have fl39 := hts (.fieldLink RX3 39 "DunningDeskModel" "values" "[I") (by decide +kernel)
  have fl42 := hts (.fieldLink RX3 42 "DunningDeskModel" "readyOn" "[I") (by decide +kernel)
  have fl48 := hts (.fieldLink RX3 48 "DunningDeskModel" "states" "[C") (by decide +kernel)
  have fl61 := hts (.fieldLink RX3 61 "DunningDeskModel" "cases" "I") (by decide +kernel)
  have hl := lv_entry [.ref (a 0), .int q, .int key, .int kd, .int cs, .int ct, .int t] (n := 7) (Nat.le_of_ble_eq_true rfl)
  rw [lg_entry_eq]
  generalize (lg_sl [.ref (a 0), .int q, .int key, .int kd, .int cs, .int ct, .int t] ++ List.replicate (7 - (lg_sl [.ref (a 0), .int q, .int key, .int kd, .int cs, .int ct, .int t]).length) Slot.unset).toArray = ls at hl ⊢
  have hl : lv_has ls 7 [(0, .ref (a 0)), (1, .int q), (2, .int key), (3, .int kd), (4, .int cs), (5, .int ct), (6, .int t)] := hl
  refine lv_aload_n hx hb dX3_adds_0 rfl (lv_at hl 0 rfl) ?_
  refine va_get (D := G) (ci := 5) (v := .ref (a 6)) (C := RX3) (T := TX3) (N := 19) hx hb hts hinX3 hown hK hP 0 rfl rfl 6 (by decide) fl26 (fun _ h9 => h9) rfl dX3_adds_1 ?_
  refine lv_aload_n hx hb dX3_adds_4 rfl (lv_at hl 0 rfl) ?_
  refine va_get (D := G) (ci := 5) (v := .int (nI n1)) (C := RX3) (T := TX3) (N := 19) hx hb hts hinX3 hown hK hP 0 rfl rfl 16 (by decide) fl68 (fun _ h9 => h9) rfl dX3_adds_5 ?_
  refine lv_iload_n hx hb dX3_adds_8 rfl (lv_at hl 1 rfl) ?_
  refine y_iast (ws' := W3 k a C n0 (w2 M 0 n1 q) n1 d th) (j := n1) (x := q) hx hb hK hP hD hS 6 0 rfl rfl (by omega) hsz1 rfl dX3_adds_9 (fun H locs hP hD hS => ?_)
  refine lv_aload_n hx hb dX3_adds_10 rfl (lv_at hl 0 rfl) ?_
  refine va_get (D := G) (ci := 5) (v := .ref (a 7)) (C := RX3) (T := TX3) (N := 19) hx hb hts hinX3 hown hK hP 0 rfl rfl 7 (by decide) fl29 (fun _ h9 => h9) rfl dX3_adds_11 ?_
  refine lv_aload_n hx hb dX3_adds_14 rfl (lv_at hl 0 rfl) ?_
  refine va_get (D := G) (ci := 5) (v := .int (nI n1)) (C := RX3) (T := TX3) (N := 19) hx hb hts hinX3 hown hK hP 0 rfl rfl 16 (by decide) fl68 (fun _ h9 => h9) rfl dX3_adds_15 ?_
  refine lv_iload_n hx hb dX3_adds_18 rfl (lv_at hl 2 rfl) ?_
  refine y_iast (ws' := W3 k a C n0 (w2 (w2 M 0 n1 q) 1 n1 key) n1 d th) (j := n1) (x := key) hx hb hK hP hD hS 7 0 rfl rfl (by omega) hsz1 rfl dX3_adds_19 (fun H locs hP hD hS => ?_)
  refine lv_aload_n hx hb dX3_adds_20 rfl (lv_at hl 0 rfl) ?_
  refine va_get (D := G) (ci := 5) (v := .ref (a 8)) (C := RX3) (T := TX3) (N := 19) hx hb hts hinX3 hown hK hP 0 rfl rfl 8 (by decide) fl32 (fun _ h9 => h9) rfl dX3_adds_21 ?_
  refine lv_aload_n hx hb dX3_adds_24 rfl (lv_at hl 0 rfl) ?_
  refine va_get (D := G) (ci := 5) (v := .int (nI n1)) (C := RX3) (T := TX3) (N := 19) hx hb hts hinX3 hown hK hP 0 rfl rfl 16 (by decide) fl68 (fun _ h9 => h9) rfl dX3_adds_25 ?_
  refine lv_iload_n hx hb dX3_adds_28 rfl (lv_at hl 3 rfl) ?_
  refine y_cast (ws' := W3 k a C n0 (w2 (w2 (w2 M 0 n1 q) 1 n1 key) 2 n1 kd) n1 d th) (j := n1) (x := kd) hx hb hK hP hD hS 8 2 rfl rfl (by omega) hsz1 hkd rfl dX3_adds_29 (fun H locs hP hD hS => ?_)
  refine lv_aload_n hx hb dX3_adds_30 rfl (lv_at hl 0 rfl) ?_
  refine va_get (D := G) (ci := 5) (v := .ref (a 9)) (C := RX3) (T := TX3) (N := 19) hx hb hts hinX3 hown hK hP 0 rfl rfl 9 (by decide) fl36 (fun _ h9 => h9) rfl dX3_adds_31 ?_
  refine lv_aload_n hx hb dX3_adds_34 rfl (lv_at hl 0 rfl) ?_
  refine va_get (D := G) (ci := 5) (v := .int (nI n1)) (C := RX3) (T := TX3) (N := 19) hx hb hts hinX3 hown hK hP 0 rfl rfl 16 (by decide) fl68 (fun _ h9 => h9) rfl dX3_adds_35 ?_
  refine lv_iload hx hb dX3_adds_38 (lv_at hl 4 rfl) ?_
  refine y_iast (ws' := W3 k a C n0 (w2 (w2 (w2 (w2 M 0 n1 q) 1 n1 key) 2 n1 kd) 3 n1 cs) n1 d th) (j := n1) (x := cs) hx hb hK hP hD hS 9 0 rfl rfl (by omega) hsz1 rfl dX3_adds_40 (fun H locs hP hD hS => ?_)
  refine lv_aload_n hx hb dX3_adds_41 rfl (lv_at hl 0 rfl) ?_
  refine va_get (D := G) (ci := 5) (v := .ref (a 10)) (C := RX3) (T := TX3) (N := 19) hx hb hts hinX3 hown hK hP 0 rfl rfl 10 (by decide) fl39 (fun _ h9 => h9) rfl dX3_adds_42 ?_
  refine lv_aload_n hx hb dX3_adds_45 rfl (lv_at hl 0 rfl) ?_
  refine va_get (D := G) (ci := 5) (v := .int (nI n1)) (C := RX3) (T := TX3) (N := 19) hx hb hts hinX3 hown hK hP 0 rfl rfl 16 (by decide) fl68 (fun _ h9 => h9) rfl dX3_adds_46 ?_
  refine lv_iload hx hb dX3_adds_49 (lv_at hl 5 rfl) ?_
  refine y_iast (ws' := W3 k a C n0 (w2 (w2 (w2 (w2 (w2 M 0 n1 q) 1 n1 key) 2 n1 kd) 3 n1 cs) 4 n1 ct) n1 d th) (j := n1) (x := ct) hx hb hK hP hD hS 10 0 rfl rfl (by omega) hsz1 rfl dX3_adds_51 (fun H locs hP hD hS => ?_)
  refine lv_aload_n hx hb dX3_adds_52 rfl (lv_at hl 0 rfl) ?_
  refine va_get (D := G) (ci := 5) (v := .ref (a 11)) (C := RX3) (T := TX3) (N := 19) hx hb hts hinX3 hown hK hP 0 rfl rfl 11 (by decide) fl42 (fun _ h9 => h9) rfl dX3_adds_53 ?_
  refine lv_aload_n hx hb dX3_adds_56 rfl (lv_at hl 0 rfl) ?_
  refine va_get (D := G) (ci := 5) (v := .int (nI n1)) (C := RX3) (T := TX3) (N := 19) hx hb hts hinX3 hown hK hP 0 rfl rfl 16 (by decide) fl68 (fun _ h9 => h9) rfl dX3_adds_57 ?_
  refine lv_iload hx hb dX3_adds_60 (lv_at hl 6 rfl) ?_
  refine y_iast (ws' := W3 k a C n0 (w2 (w2 (w2 (w2 (w2 (w2 M 0 n1 q) 1 n1 key) 2 n1 kd) 3 n1 cs) 4 n1 ct) 6 n1 t) n1 d th) (j := n1) (x := t) hx hb hK hP hD hS 11 0 rfl rfl (by omega) hsz1 rfl dX3_adds_62 (fun H locs hP hD hS => ?_)
  refine lv_aload_n hx hb dX3_adds_63 rfl (lv_at hl 0 rfl) ?_
  refine va_get (D := G) (ci := 5) (v := .ref (a 13)) (C := RX3) (T := TX3) (N := 19) hx hb hts hinX3 hown hK hP 0 rfl rfl 13 (by decide) fl48 (fun _ h9 => h9) rfl dX3_adds_64 ?_
  refine lv_aload_n hx hb dX3_adds_67 rfl (lv_at hl 0 rfl) ?_
  refine va_get (D := G) (ci := 5) (v := .int (nI n1)) (C := RX3) (T := TX3) (N := 19) hx hb hts hinX3 hown hK hP 0 rfl rfl 16 (by decide) fl68 (fun _ h9 => h9) rfl dX3_adds_68 ?_
  refine lv_iload hx hb dX3_adds_71 (lv_at hl 4 rfl) ?_
  refine lv_aload_n hx hb dX3_adds_73 rfl (lv_at hl 0 rfl) ?_
  refine va_get (D := G) (ci := 5) (v := .int (nI n0)) (C := RX3) (T := TX3) (N := 19) hx hb hts hinX3 hown hK hP 0 rfl rfl 5 (by decide) fl61 (fun _ h9 => h9) rfl dX3_adds_74 ?_
  refine lv_icmp_ge (tgt := 85) hx hb dX3_adds_77 (by decide) (fun c77 => ?_) (fun c77 => ?_)
  · skip
    refine lv_bipush (v := 104) hx hb dX3_adds_85 (by decide) ?_
    refine y_cast (ws' := W3 k a C n0 (w2 (w2 (w2 (w2 (w2 (w2 (w2 M 0 n1 q) 1 n1 key) 2 n1 kd) 3 n1 cs) 4 n1 ct) 6 n1 t) 5 n1 104) n1 d th) (j := n1) (x := 104) hx hb hK hP hD hS 13 2 rfl rfl (by omega) hsz1 (by decide) rfl dX3_adds_87 (fun H locs hP hD hS => ?_)
    refine lv_aload_n hx hb dX3_adds_88 rfl (lv_at hl 0 rfl) ?_
    refine lv_dup hx hb dX3_adds_89 rfl ?_
    refine va_get (D := G) (ci := 5) (v := .int (nI n1)) (C := RX3) (T := TX3) (N := 19) hx hb hts hinX3 hown hK hP 0 rfl rfl 16 (by decide) fl68 (fun _ h9 => h9) rfl dX3_adds_90 ?_
    refine lv_iconst (v := 1) hx hb dX3_adds_93 (by decide) ?_
    refine lv_iadd hx hb dX3_adds_94 ?_
    refine y_top (nI_1 n1) ?_
    refine va_put (D := G) (ci := 5) (v := .int (nI (n1 + 1))) (ty := .int) (C := RX3) (T := TX3) (N := 19) hx hb hts hinX3 tyX3 tyX3_ok nmX3 hown hK hP hD hS 0 rfl rfl 16 (by decide) fl68 (fun _ h9 => h9) rfl (by decide +kernel) rfl rfl (Nat.le_of_ble_eq_true rfl) dX3_adds_95 (fun H locs hP hD hS => ?_)
    have hP : va_P G vwCl (W3 k a C n0 (w2 (w2 (w2 (w2 (w2 (w2 (w2 M 0 n1 q) 1 n1 key) 2 n1 kd) 3 n1 cs) 4 n1 ct) 6 n1 t) 5 n1 104) (n1 + 1) d th) H := hP
    have hD : va_D A (W3 k a C n0 (w2 (w2 (w2 (w2 (w2 (w2 (w2 M 0 n1 q) 1 n1 key) 2 n1 kd) 3 n1 cs) 4 n1 ct) 6 n1 t) 5 n1 104) (n1 + 1) d th) := hD
    refine lv_aload_n hx hb dX3_adds_98 rfl (lv_at hl 0 rfl) ?_
    refine va_get (D := G) (ci := 5) (v := .int (nI (n1 + 1))) (C := RX3) (T := TX3) (N := 19) hx hb hts hinX3 hown hK hP 0 rfl rfl 16 (by decide) fl68 (fun _ h9 => h9) rfl dX3_adds_99 ?_
    refine lv_iconst (v := 1) hx hb dX3_adds_102 (by decide) ?_
    refine lv_isub hx hb dX3_adds_103 ?_
    refine y_top ((nI_pred n1)) ?_
    have hPf : va_P G vwCl (W3 k a C n0 (mad2 M n1 q key kd cs ct t (if cs < nI n0 then 119 else 104)) (n1 + 1) d th) H := by first | (rw [if_neg (Int32.not_lt.mpr c77)]; exact hP) | (rw [if_pos (Int32.not_le.mp c77)]; exact hP)
    exact W.iret (v := (nI n1)) hx hb hr (fun τ hτ hW => ⟨⟨_, (), rfl, (by rfl), yPt hPf hτ⟩, hS.F hτ⟩) hS.2.2 dX3_adds_104
  · skip
    refine lv_bipush (v := 119) hx hb dX3_adds_80 (by decide) ?_
    refine lv_goto (tgt := 87) hx hb dX3_adds_82 (by decide) ?_
    refine y_cast (ws' := W3 k a C n0 (w2 (w2 (w2 (w2 (w2 (w2 (w2 M 0 n1 q) 1 n1 key) 2 n1 kd) 3 n1 cs) 4 n1 ct) 6 n1 t) 5 n1 119) n1 d th) (j := n1) (x := 119) hx hb hK hP hD hS 13 2 rfl rfl (by omega) hsz1 (by decide) rfl dX3_adds_87 (fun H locs hP hD hS => ?_)
    refine lv_aload_n hx hb dX3_adds_88 rfl (lv_at hl 0 rfl) ?_
    refine lv_dup hx hb dX3_adds_89 rfl ?_
    refine va_get (D := G) (ci := 5) (v := .int (nI n1)) (C := RX3) (T := TX3) (N := 19) hx hb hts hinX3 hown hK hP 0 rfl rfl 16 (by decide) fl68 (fun _ h9 => h9) rfl dX3_adds_90 ?_
    refine lv_iconst (v := 1) hx hb dX3_adds_93 (by decide) ?_
    refine lv_iadd hx hb dX3_adds_94 ?_
    refine y_top (nI_1 n1) ?_
    refine va_put (D := G) (ci := 5) (v := .int (nI (n1 + 1))) (ty := .int) (C := RX3) (T := TX3) (N := 19) hx hb hts hinX3 tyX3 tyX3_ok nmX3 hown hK hP hD hS 0 rfl rfl 16 (by decide) fl68 (fun _ h9 => h9) rfl (by decide +kernel) rfl rfl (Nat.le_of_ble_eq_true rfl) dX3_adds_95 (fun H locs hP hD hS => ?_)
    have hP : va_P G vwCl (W3 k a C n0 (w2 (w2 (w2 (w2 (w2 (w2 (w2 M 0 n1 q) 1 n1 key) 2 n1 kd) 3 n1 cs) 4 n1 ct) 6 n1 t) 5 n1 119) (n1 + 1) d th) H := hP
    have hD : va_D A (W3 k a C n0 (w2 (w2 (w2 (w2 (w2 (w2 (w2 M 0 n1 q) 1 n1 key) 2 n1 kd) 3 n1 cs) 4 n1 ct) 6 n1 t) 5 n1 119) (n1 + 1) d th) := hD
    refine lv_aload_n hx hb dX3_adds_98 rfl (lv_at hl 0 rfl) ?_
    refine va_get (D := G) (ci := 5) (v := .int (nI (n1 + 1))) (C := RX3) (T := TX3) (N := 19) hx hb hts hinX3 hown hK hP 0 rfl rfl 16 (by decide) fl68 (fun _ h9 => h9) rfl dX3_adds_99 ?_
    refine lv_iconst (v := 1) hx hb dX3_adds_102 (by decide) ?_
    refine lv_isub hx hb dX3_adds_103 ?_
    refine y_top ((nI_pred n1)) ?_
    have hPf : va_P G vwCl (W3 k a C n0 (mad2 M n1 q key kd cs ct t (if cs < nI n0 then 119 else 104)) (n1 + 1) d th) H := by first | (rw [if_neg (Int32.not_lt.mpr c77)]; exact hP) | (rw [if_pos (Int32.not_le.mp c77)]; exact hP)
    exact W.iret (v := (nI n1)) hx hb hr (fun τ hτ hW => ⟨⟨_, (), rfl, (by rfl), yPt hPf hτ⟩, hS.F hτ⟩) hS.2.2 dX3_adds_104

set_option maxHeartbeats 4000000 in
set_option maxRecDepth 100000 in
theorem c_X3_post (l : Launch) (G : va_G) (k : Nat → ClassId) (a : Nat → Nat) (C : Nat → Nat → Int32) (n0 : Nat) (M : Nat → Nat → Int32) (n1 : Nat) (d : Nat) (th : Int32) (sz : Nat) (q key kd x v dl : Int32) (hND : va_D (fun _ => True) (W3 k a C n0 M n1 d th)) (hn : n0 ≤ 8) (hn1 : n1 ≤ 80) : Met l yX3_post wsX3_post ({ frames := 1, cells := 0, slots := 0, locals := 26 }) (va_Pc [.ref (a 0), .int q, .int key, .int kd, .int x, .int v, .int dl] (yBs G (yT k) (W3 k a C n0 M n1 d th) sz)) (va_Qi (fun (r : Int32) (_ : Unit) => r = (o_post q key kd x v dl n0 M n1 d).2.1) (fun _ τ => va_P G vwCl (W3 k a C n0 ((o_post q key kd x v dl n0 M n1 d).2.2.1) ((o_post q key kd x v dl n0 M n1 d).2.2.2) d ((o_post q key kd x v dl n0 M n1 d).1)) τ.heap) (va_A (W3 k a C n0 M n1 d th) sz)) 0 0 (va_A (W3 k a C n0 M n1 d th) sz) := by
  refine Met.ofW (cc := cX3_post) (maxL := 9) (ret := (some .int)) (by decide) rfl ?_
  intro p e s m args below meth c_ s₁ B hml hv
  obtain ⟨rfl, hsz, hP, hK⟩ := hv
  have hx := B.exec
  have hb := B.bytes
  have hr := B.returns
  have hts := atoms_spec (ws := wsX3_post) B.pre
  have hown : s.vm.findClass RX3 = some m.cls := findClass_of_methodNamed B.named
  have hlocks := B.notSynchronized
  have hsz0 : (8 : Nat) < 2 ^ 31 := by decide
  have hsz1 : (80 : Nat) < 2 ^ 31 := by decide
  subst hsz
  have hD := hND.self (sz := s.heap.size)
  generalize hAe : va_A (W3 k a C n0 M n1 d th) s.heap.size = A at hD ⊢
  have hA : ∀ q : Nat, s.heap.size ≤ q → A q := fun q h => by rw [← hAe]; exact Or.inr h
  have hS : va_S A s.heap s.heap [] := va_S.rf
  have hinX3 : ∀ w ∈ u_ws RX3 TX3 19, w ∈ wsX3_post := by decide +kernel
  have fl68 := hts (.fieldLink RX3 68 "DunningDeskModel" "messages" "I") (by decide +kernel)
  have fl57 := hts (.fieldLink RX3 57 "DunningDeskModel" "thrown" "I") (by decide +kernel)
  have fl71 := hts (.fieldLink RX3 71 "DunningDeskModel" "day" "I") (by decide +kernel)
  have hl := lv_entry [.ref (a 0), .int q, .int key, .int kd, .int x, .int v, .int dl] (n := 9) (Nat.le_of_ble_eq_true rfl)
  rw [lg_entry_eq]
  generalize (lg_sl [.ref (a 0), .int q, .int key, .int kd, .int x, .int v, .int dl] ++ List.replicate (9 - (lg_sl [.ref (a 0), .int q, .int key, .int kd, .int x, .int v, .int dl]).length) Slot.unset).toArray = ls at hl ⊢
  have hl : lv_has ls 9 [(0, .ref (a 0)), (1, .int q), (2, .int key), (3, .int kd), (4, .int x), (5, .int v), (6, .int dl)] := hl
  refine lv_iload_n hx hb dX3_post_0 rfl (lv_at hl 1 rfl) ?_
  refine lv_iconst (v := 0) hx hb dX3_post_1 (by decide) ?_
  refine lv_iconst (v := 2) hx hb dX3_post_2 (by decide) ?_
  refine y_roS (As := [.int q, .int 0, .int 2]) (rest := []) ⟨hx, hb, hml, hown, hts⟩ (c_X3_in l q 0 2 ) (va_cwS 3 hts gX3_post_X3_in rfl rfl rfl (by decide +kernel) ⟨Nat.le_of_ble_eq_true rfl, Nat.le_of_ble_eq_true rfl⟩) rfl hl.1 rfl (Nat.le_of_ble_eq_true rfl) dX3_post_3 ⟨Nat.le_of_ble_eq_true rfl, Nat.le_of_ble_eq_true rfl⟩ (fun r hr9 => ?_)
  subst hr9
  refine lv_if_eq (tgt := 70) hx hb dX3_post_6 (by decide) (fun c6 => ?_) (fun c6 => ?_)
  · replace c6 : ¬ (rg 0 2 q) := b2_of0 c6
    refine lv_iconst (v := 0) hx hb dX3_post_70 (by decide) ?_
    refine lv_istore (lv' := [(7, .int 0), (0, .ref (a 0)), (1, .int q), (2, .int key), (3, .int kd), (4, .int x), (5, .int v), (6, .int dl)]) hx hb dX3_post_71 hl (by decide) rfl (fun ls hl => ?_)
    refine lv_iload hx hb dX3_post_73 (lv_at hl 0 rfl) ?_
    refine lv_if_ne (tgt := 84) hx hb dX3_post_75 (by decide) (fun c9 => absurd c9 (by decide)) (fun _ => ?_)
    refine lv_aload_n hx hb dX3_post_78 rfl (lv_at hl 1 rfl) ?_
    refine lv_iconst (v := 1) hx hb dX3_post_79 (by decide) ?_
    have hfr9 : ∀ q, va_A (W3 k a C n0 M n1 d th) _ q → A q := va_free hD hS hA [0, 1, 2, 3, 4, 5, 6, 7, 8, 9, 10, 11, 12, 13, 14, 15] rfl
    refine y_rwV (w := W3 k a C n0 M n1 d th) (w' := fun (_ : Unit) => W3 k a C n0 M n1 d 1) (As := [.int 1]) (rest := []) ⟨hx, hb, hml, hown, hts⟩ (c_X3_raises l G k a C n0 M n1 d th _ 1 (yD hND rfl) ) (cwV 1 hts gX3_post_X3_raises rfl rfl rfl (by decide +kernel) ⟨Nat.le_of_ble_eq_true rfl, Nat.le_of_ble_eq_true rfl⟩) hK hP (va_recv hK hP (ci := 5) (q0 := 0) rfl rfl) hS hfr9 rfl hl.1 rfl (Nat.le_of_ble_eq_true rfl) dX3_post_80 ⟨Nat.le_of_ble_eq_true rfl, Nat.le_of_ble_eq_true rfl⟩ (fun r u9 H1 locs1 hr9 hP9 hz9 hk9 hS9 => ?_)
    have hP9 : va_P G vwCl (W3 k a C n0 M n1 d 1) H1 := hP9
    have hD9 : va_D A (W3 k a C n0 M n1 d 1) := yD hD rfl
    clear hP hD hS hfr9 hz9 hk9
    have hP := hP9
    have hD := hD9
    have hS := hS9
    clear hP9 hD9 hS9
    subst hr9
    have hPf : va_P G vwCl (W3 k a C n0 ((o_post q key kd x v dl n0 M n1 d).2.2.1) ((o_post q key kd x v dl n0 M n1 d).2.2.2) d ((o_post q key kd x v dl n0 M n1 d).1)) H1 := by unfold o_post; first | (rw [if_neg (fun h9 => by first | exact c6 h9.1 | exact c17 h9.2.1 | exact h9.2.2.1.elim c23 c29 | exact c40 h9.2.2.2.1 | exact c52 h9.2.2.2.2.1 | exact c63 h9.2.2.2.2.2)]; exact hP) | (rw [if_pos (show okp q key kd x v dl from ⟨c6, c17, by first | exact Or.inl c23 | exact Or.inr c29, c40, c52, c63⟩)]; first | (rw [if_neg c95]; exact hP) | (rw [if_pos c95]; first | (rw [if_pos c104]; exact hP) | (rw [if_neg c104]; exact hP)))
    exact W.iret (v := 0) hx hb hr (fun τ hτ hW => ⟨⟨_, (), rfl, (by unfold o_post; first | (rw [if_neg (fun h9 => by first | exact c6 h9.1 | exact c17 h9.2.1 | exact h9.2.2.1.elim c23 c29 | exact c40 h9.2.2.2.1 | exact c52 h9.2.2.2.2.1 | exact c63 h9.2.2.2.2.2)]; done) | (rw [if_pos (show okp q key kd x v dl from ⟨c6, c17, by first | exact Or.inl c23 | exact Or.inr c29, c40, c52, c63⟩)]; first | (rw [if_neg c95]; done) | (rw [if_pos c95]; first | (rw [if_pos c104]; done) | (rw [if_neg c104]; done)))), yPt hPf hτ⟩, hS.F hτ⟩) hS.2.2 dX3_post_83
  · replace c6 : rg 0 2 q := b2_of1 c6
    refine lv_iload_n hx hb dX3_post_9 rfl (lv_at hl 2 rfl) ?_
    refine lv_iconst (v := 0) hx hb dX3_post_10 (by decide) ?_
    refine lv_sipush (v := 999) hx hb dX3_post_11 (by decide) ?_
    refine y_roS (As := [.int key, .int 0, .int 999]) (rest := []) ⟨hx, hb, hml, hown, hts⟩ (c_X3_in l key 0 999 ) (va_cwS 3 hts gX3_post_X3_in rfl rfl rfl (by decide +kernel) ⟨Nat.le_of_ble_eq_true rfl, Nat.le_of_ble_eq_true rfl⟩) rfl hl.1 rfl (Nat.le_of_ble_eq_true rfl) dX3_post_14 ⟨Nat.le_of_ble_eq_true rfl, Nat.le_of_ble_eq_true rfl⟩ (fun r hr9 => ?_)
    subst hr9
    refine lv_if_eq (tgt := 70) hx hb dX3_post_17 (by decide) (fun c17 => ?_) (fun c17 => ?_)
    · replace c17 : ¬ (rg 0 999 key) := b2_of0 c17
      refine lv_iconst (v := 0) hx hb dX3_post_70 (by decide) ?_
      refine lv_istore (lv' := [(7, .int 0), (0, .ref (a 0)), (1, .int q), (2, .int key), (3, .int kd), (4, .int x), (5, .int v), (6, .int dl)]) hx hb dX3_post_71 hl (by decide) rfl (fun ls hl => ?_)
      refine lv_iload hx hb dX3_post_73 (lv_at hl 0 rfl) ?_
      refine lv_if_ne (tgt := 84) hx hb dX3_post_75 (by decide) (fun c9 => absurd c9 (by decide)) (fun _ => ?_)
      refine lv_aload_n hx hb dX3_post_78 rfl (lv_at hl 1 rfl) ?_
      refine lv_iconst (v := 1) hx hb dX3_post_79 (by decide) ?_
      have hfr9 : ∀ q, va_A (W3 k a C n0 M n1 d th) _ q → A q := va_free hD hS hA [0, 1, 2, 3, 4, 5, 6, 7, 8, 9, 10, 11, 12, 13, 14, 15] rfl
      refine y_rwV (w := W3 k a C n0 M n1 d th) (w' := fun (_ : Unit) => W3 k a C n0 M n1 d 1) (As := [.int 1]) (rest := []) ⟨hx, hb, hml, hown, hts⟩ (c_X3_raises l G k a C n0 M n1 d th _ 1 (yD hND rfl) ) (cwV 1 hts gX3_post_X3_raises rfl rfl rfl (by decide +kernel) ⟨Nat.le_of_ble_eq_true rfl, Nat.le_of_ble_eq_true rfl⟩) hK hP (va_recv hK hP (ci := 5) (q0 := 0) rfl rfl) hS hfr9 rfl hl.1 rfl (Nat.le_of_ble_eq_true rfl) dX3_post_80 ⟨Nat.le_of_ble_eq_true rfl, Nat.le_of_ble_eq_true rfl⟩ (fun r u9 H1 locs1 hr9 hP9 hz9 hk9 hS9 => ?_)
      have hP9 : va_P G vwCl (W3 k a C n0 M n1 d 1) H1 := hP9
      have hD9 : va_D A (W3 k a C n0 M n1 d 1) := yD hD rfl
      clear hP hD hS hfr9 hz9 hk9
      have hP := hP9
      have hD := hD9
      have hS := hS9
      clear hP9 hD9 hS9
      subst hr9
      have hPf : va_P G vwCl (W3 k a C n0 ((o_post q key kd x v dl n0 M n1 d).2.2.1) ((o_post q key kd x v dl n0 M n1 d).2.2.2) d ((o_post q key kd x v dl n0 M n1 d).1)) H1 := by unfold o_post; first | (rw [if_neg (fun h9 => by first | exact c6 h9.1 | exact c17 h9.2.1 | exact h9.2.2.1.elim c23 c29 | exact c40 h9.2.2.2.1 | exact c52 h9.2.2.2.2.1 | exact c63 h9.2.2.2.2.2)]; exact hP) | (rw [if_pos (show okp q key kd x v dl from ⟨c6, c17, by first | exact Or.inl c23 | exact Or.inr c29, c40, c52, c63⟩)]; first | (rw [if_neg c95]; exact hP) | (rw [if_pos c95]; first | (rw [if_pos c104]; exact hP) | (rw [if_neg c104]; exact hP)))
      exact W.iret (v := 0) hx hb hr (fun τ hτ hW => ⟨⟨_, (), rfl, (by unfold o_post; first | (rw [if_neg (fun h9 => by first | exact c6 h9.1 | exact c17 h9.2.1 | exact h9.2.2.1.elim c23 c29 | exact c40 h9.2.2.2.1 | exact c52 h9.2.2.2.2.1 | exact c63 h9.2.2.2.2.2)]; done) | (rw [if_pos (show okp q key kd x v dl from ⟨c6, c17, by first | exact Or.inl c23 | exact Or.inr c29, c40, c52, c63⟩)]; first | (rw [if_neg c95]; done) | (rw [if_pos c95]; first | (rw [if_pos c104]; done) | (rw [if_neg c104]; done)))), yPt hPf hτ⟩, hS.F hτ⟩) hS.2.2 dX3_post_83
    · replace c17 : rg 0 999 key := b2_of1 c17
      refine lv_iload_n hx hb dX3_post_20 rfl (lv_at hl 3 rfl) ?_
      refine lv_bipush (v := 112) hx hb dX3_post_21 (by decide) ?_
      refine lv_icmp_eq (tgt := 32) hx hb dX3_post_23 (by decide) (fun c23 => ?_) (fun c23 => ?_)
      · skip
        refine lv_iload hx hb dX3_post_32 (lv_at hl 4 rfl) ?_
        refine lv_iconst (v := 0) hx hb dX3_post_34 (by decide) ?_
        refine lv_bipush (v := 7) hx hb dX3_post_35 (by decide) ?_
        refine y_roS (As := [.int x, .int 0, .int 7]) (rest := []) ⟨hx, hb, hml, hown, hts⟩ (c_X3_in l x 0 7 ) (va_cwS 3 hts gX3_post_X3_in rfl rfl rfl (by decide +kernel) ⟨Nat.le_of_ble_eq_true rfl, Nat.le_of_ble_eq_true rfl⟩) rfl hl.1 rfl (Nat.le_of_ble_eq_true rfl) dX3_post_37 ⟨Nat.le_of_ble_eq_true rfl, Nat.le_of_ble_eq_true rfl⟩ (fun r hr9 => ?_)
        subst hr9
        refine lv_if_eq (tgt := 70) hx hb dX3_post_40 (by decide) (fun c40 => ?_) (fun c40 => ?_)
        · replace c40 : ¬ (rg 0 7 x) := b2_of0 c40
          refine lv_iconst (v := 0) hx hb dX3_post_70 (by decide) ?_
          refine lv_istore (lv' := [(7, .int 0), (0, .ref (a 0)), (1, .int q), (2, .int key), (3, .int kd), (4, .int x), (5, .int v), (6, .int dl)]) hx hb dX3_post_71 hl (by decide) rfl (fun ls hl => ?_)
          refine lv_iload hx hb dX3_post_73 (lv_at hl 0 rfl) ?_
          refine lv_if_ne (tgt := 84) hx hb dX3_post_75 (by decide) (fun c9 => absurd c9 (by decide)) (fun _ => ?_)
          refine lv_aload_n hx hb dX3_post_78 rfl (lv_at hl 1 rfl) ?_
          refine lv_iconst (v := 1) hx hb dX3_post_79 (by decide) ?_
          have hfr9 : ∀ q, va_A (W3 k a C n0 M n1 d th) _ q → A q := va_free hD hS hA [0, 1, 2, 3, 4, 5, 6, 7, 8, 9, 10, 11, 12, 13, 14, 15] rfl
          refine y_rwV (w := W3 k a C n0 M n1 d th) (w' := fun (_ : Unit) => W3 k a C n0 M n1 d 1) (As := [.int 1]) (rest := []) ⟨hx, hb, hml, hown, hts⟩ (c_X3_raises l G k a C n0 M n1 d th _ 1 (yD hND rfl) ) (cwV 1 hts gX3_post_X3_raises rfl rfl rfl (by decide +kernel) ⟨Nat.le_of_ble_eq_true rfl, Nat.le_of_ble_eq_true rfl⟩) hK hP (va_recv hK hP (ci := 5) (q0 := 0) rfl rfl) hS hfr9 rfl hl.1 rfl (Nat.le_of_ble_eq_true rfl) dX3_post_80 ⟨Nat.le_of_ble_eq_true rfl, Nat.le_of_ble_eq_true rfl⟩ (fun r u9 H1 locs1 hr9 hP9 hz9 hk9 hS9 => ?_)
          have hP9 : va_P G vwCl (W3 k a C n0 M n1 d 1) H1 := hP9
          have hD9 : va_D A (W3 k a C n0 M n1 d 1) := yD hD rfl
          clear hP hD hS hfr9 hz9 hk9
          have hP := hP9
          have hD := hD9
          have hS := hS9
          clear hP9 hD9 hS9
          subst hr9
          have hPf : va_P G vwCl (W3 k a C n0 ((o_post q key kd x v dl n0 M n1 d).2.2.1) ((o_post q key kd x v dl n0 M n1 d).2.2.2) d ((o_post q key kd x v dl n0 M n1 d).1)) H1 := by unfold o_post; first | (rw [if_neg (fun h9 => by first | exact c6 h9.1 | exact c17 h9.2.1 | exact h9.2.2.1.elim c23 c29 | exact c40 h9.2.2.2.1 | exact c52 h9.2.2.2.2.1 | exact c63 h9.2.2.2.2.2)]; exact hP) | (rw [if_pos (show okp q key kd x v dl from ⟨c6, c17, by first | exact Or.inl c23 | exact Or.inr c29, c40, c52, c63⟩)]; first | (rw [if_neg c95]; exact hP) | (rw [if_pos c95]; first | (rw [if_pos c104]; exact hP) | (rw [if_neg c104]; exact hP)))
          exact W.iret (v := 0) hx hb hr (fun τ hτ hW => ⟨⟨_, (), rfl, (by unfold o_post; first | (rw [if_neg (fun h9 => by first | exact c6 h9.1 | exact c17 h9.2.1 | exact h9.2.2.1.elim c23 c29 | exact c40 h9.2.2.2.1 | exact c52 h9.2.2.2.2.1 | exact c63 h9.2.2.2.2.2)]; done) | (rw [if_pos (show okp q key kd x v dl from ⟨c6, c17, by first | exact Or.inl c23 | exact Or.inr c29, c40, c52, c63⟩)]; first | (rw [if_neg c95]; done) | (rw [if_pos c95]; first | (rw [if_pos c104]; done) | (rw [if_neg c104]; done)))), yPt hPf hτ⟩, hS.F hτ⟩) hS.2.2 dX3_post_83
        · replace c40 : rg 0 7 x := b2_of1 c40
          refine lv_iload hx hb dX3_post_43 (lv_at hl 5 rfl) ?_
          refine lv_iconst (v := 0) hx hb dX3_post_45 (by decide) ?_
          refine lv_sipush (v := 9999) hx hb dX3_post_46 (by decide) ?_
          refine y_roS (As := [.int v, .int 0, .int 9999]) (rest := []) ⟨hx, hb, hml, hown, hts⟩ (c_X3_in l v 0 9999 ) (va_cwS 3 hts gX3_post_X3_in rfl rfl rfl (by decide +kernel) ⟨Nat.le_of_ble_eq_true rfl, Nat.le_of_ble_eq_true rfl⟩) rfl hl.1 rfl (Nat.le_of_ble_eq_true rfl) dX3_post_49 ⟨Nat.le_of_ble_eq_true rfl, Nat.le_of_ble_eq_true rfl⟩ (fun r hr9 => ?_)
          subst hr9
          refine lv_if_eq (tgt := 70) hx hb dX3_post_52 (by decide) (fun c52 => ?_) (fun c52 => ?_)
          · replace c52 : ¬ (rg 0 9999 v) := b2_of0 c52
            refine lv_iconst (v := 0) hx hb dX3_post_70 (by decide) ?_
            refine lv_istore (lv' := [(7, .int 0), (0, .ref (a 0)), (1, .int q), (2, .int key), (3, .int kd), (4, .int x), (5, .int v), (6, .int dl)]) hx hb dX3_post_71 hl (by decide) rfl (fun ls hl => ?_)
            refine lv_iload hx hb dX3_post_73 (lv_at hl 0 rfl) ?_
            refine lv_if_ne (tgt := 84) hx hb dX3_post_75 (by decide) (fun c9 => absurd c9 (by decide)) (fun _ => ?_)
            refine lv_aload_n hx hb dX3_post_78 rfl (lv_at hl 1 rfl) ?_
            refine lv_iconst (v := 1) hx hb dX3_post_79 (by decide) ?_
            have hfr9 : ∀ q, va_A (W3 k a C n0 M n1 d th) _ q → A q := va_free hD hS hA [0, 1, 2, 3, 4, 5, 6, 7, 8, 9, 10, 11, 12, 13, 14, 15] rfl
            refine y_rwV (w := W3 k a C n0 M n1 d th) (w' := fun (_ : Unit) => W3 k a C n0 M n1 d 1) (As := [.int 1]) (rest := []) ⟨hx, hb, hml, hown, hts⟩ (c_X3_raises l G k a C n0 M n1 d th _ 1 (yD hND rfl) ) (cwV 1 hts gX3_post_X3_raises rfl rfl rfl (by decide +kernel) ⟨Nat.le_of_ble_eq_true rfl, Nat.le_of_ble_eq_true rfl⟩) hK hP (va_recv hK hP (ci := 5) (q0 := 0) rfl rfl) hS hfr9 rfl hl.1 rfl (Nat.le_of_ble_eq_true rfl) dX3_post_80 ⟨Nat.le_of_ble_eq_true rfl, Nat.le_of_ble_eq_true rfl⟩ (fun r u9 H1 locs1 hr9 hP9 hz9 hk9 hS9 => ?_)
            have hP9 : va_P G vwCl (W3 k a C n0 M n1 d 1) H1 := hP9
            have hD9 : va_D A (W3 k a C n0 M n1 d 1) := yD hD rfl
            clear hP hD hS hfr9 hz9 hk9
            have hP := hP9
            have hD := hD9
            have hS := hS9
            clear hP9 hD9 hS9
            subst hr9
            have hPf : va_P G vwCl (W3 k a C n0 ((o_post q key kd x v dl n0 M n1 d).2.2.1) ((o_post q key kd x v dl n0 M n1 d).2.2.2) d ((o_post q key kd x v dl n0 M n1 d).1)) H1 := by unfold o_post; first | (rw [if_neg (fun h9 => by first | exact c6 h9.1 | exact c17 h9.2.1 | exact h9.2.2.1.elim c23 c29 | exact c40 h9.2.2.2.1 | exact c52 h9.2.2.2.2.1 | exact c63 h9.2.2.2.2.2)]; exact hP) | (rw [if_pos (show okp q key kd x v dl from ⟨c6, c17, by first | exact Or.inl c23 | exact Or.inr c29, c40, c52, c63⟩)]; first | (rw [if_neg c95]; exact hP) | (rw [if_pos c95]; first | (rw [if_pos c104]; exact hP) | (rw [if_neg c104]; exact hP)))
            exact W.iret (v := 0) hx hb hr (fun τ hτ hW => ⟨⟨_, (), rfl, (by unfold o_post; first | (rw [if_neg (fun h9 => by first | exact c6 h9.1 | exact c17 h9.2.1 | exact h9.2.2.1.elim c23 c29 | exact c40 h9.2.2.2.1 | exact c52 h9.2.2.2.2.1 | exact c63 h9.2.2.2.2.2)]; done) | (rw [if_pos (show okp q key kd x v dl from ⟨c6, c17, by first | exact Or.inl c23 | exact Or.inr c29, c40, c52, c63⟩)]; first | (rw [if_neg c95]; done) | (rw [if_pos c95]; first | (rw [if_pos c104]; done) | (rw [if_neg c104]; done)))), yPt hPf hτ⟩, hS.F hτ⟩) hS.2.2 dX3_post_83
          · replace c52 : rg 0 9999 v := b2_of1 c52
            refine lv_iload hx hb dX3_post_55 (lv_at hl 6 rfl) ?_
            refine lv_iconst (v := 0) hx hb dX3_post_57 (by decide) ?_
            refine lv_bipush (v := 30) hx hb dX3_post_58 (by decide) ?_
            refine y_roS (As := [.int dl, .int 0, .int 30]) (rest := []) ⟨hx, hb, hml, hown, hts⟩ (c_X3_in l dl 0 30 ) (va_cwS 3 hts gX3_post_X3_in rfl rfl rfl (by decide +kernel) ⟨Nat.le_of_ble_eq_true rfl, Nat.le_of_ble_eq_true rfl⟩) rfl hl.1 rfl (Nat.le_of_ble_eq_true rfl) dX3_post_60 ⟨Nat.le_of_ble_eq_true rfl, Nat.le_of_ble_eq_true rfl⟩ (fun r hr9 => ?_)
            subst hr9
            refine lv_if_eq (tgt := 70) hx hb dX3_post_63 (by decide) (fun c63 => ?_) (fun c63 => ?_)
            · replace c63 : ¬ (rg 0 30 dl) := b2_of0 c63
              refine lv_iconst (v := 0) hx hb dX3_post_70 (by decide) ?_
              refine lv_istore (lv' := [(7, .int 0), (0, .ref (a 0)), (1, .int q), (2, .int key), (3, .int kd), (4, .int x), (5, .int v), (6, .int dl)]) hx hb dX3_post_71 hl (by decide) rfl (fun ls hl => ?_)
              refine lv_iload hx hb dX3_post_73 (lv_at hl 0 rfl) ?_
              refine lv_if_ne (tgt := 84) hx hb dX3_post_75 (by decide) (fun c9 => absurd c9 (by decide)) (fun _ => ?_)
              refine lv_aload_n hx hb dX3_post_78 rfl (lv_at hl 1 rfl) ?_
              refine lv_iconst (v := 1) hx hb dX3_post_79 (by decide) ?_
              have hfr9 : ∀ q, va_A (W3 k a C n0 M n1 d th) _ q → A q := va_free hD hS hA [0, 1, 2, 3, 4, 5, 6, 7, 8, 9, 10, 11, 12, 13, 14, 15] rfl
              refine y_rwV (w := W3 k a C n0 M n1 d th) (w' := fun (_ : Unit) => W3 k a C n0 M n1 d 1) (As := [.int 1]) (rest := []) ⟨hx, hb, hml, hown, hts⟩ (c_X3_raises l G k a C n0 M n1 d th _ 1 (yD hND rfl) ) (cwV 1 hts gX3_post_X3_raises rfl rfl rfl (by decide +kernel) ⟨Nat.le_of_ble_eq_true rfl, Nat.le_of_ble_eq_true rfl⟩) hK hP (va_recv hK hP (ci := 5) (q0 := 0) rfl rfl) hS hfr9 rfl hl.1 rfl (Nat.le_of_ble_eq_true rfl) dX3_post_80 ⟨Nat.le_of_ble_eq_true rfl, Nat.le_of_ble_eq_true rfl⟩ (fun r u9 H1 locs1 hr9 hP9 hz9 hk9 hS9 => ?_)
              have hP9 : va_P G vwCl (W3 k a C n0 M n1 d 1) H1 := hP9
              have hD9 : va_D A (W3 k a C n0 M n1 d 1) := yD hD rfl
              clear hP hD hS hfr9 hz9 hk9
              have hP := hP9
              have hD := hD9
              have hS := hS9
              clear hP9 hD9 hS9
              subst hr9
              have hPf : va_P G vwCl (W3 k a C n0 ((o_post q key kd x v dl n0 M n1 d).2.2.1) ((o_post q key kd x v dl n0 M n1 d).2.2.2) d ((o_post q key kd x v dl n0 M n1 d).1)) H1 := by unfold o_post; first | (rw [if_neg (fun h9 => by first | exact c6 h9.1 | exact c17 h9.2.1 | exact h9.2.2.1.elim c23 c29 | exact c40 h9.2.2.2.1 | exact c52 h9.2.2.2.2.1 | exact c63 h9.2.2.2.2.2)]; exact hP) | (rw [if_pos (show okp q key kd x v dl from ⟨c6, c17, by first | exact Or.inl c23 | exact Or.inr c29, c40, c52, c63⟩)]; first | (rw [if_neg c95]; exact hP) | (rw [if_pos c95]; first | (rw [if_pos c104]; exact hP) | (rw [if_neg c104]; exact hP)))
              exact W.iret (v := 0) hx hb hr (fun τ hτ hW => ⟨⟨_, (), rfl, (by unfold o_post; first | (rw [if_neg (fun h9 => by first | exact c6 h9.1 | exact c17 h9.2.1 | exact h9.2.2.1.elim c23 c29 | exact c40 h9.2.2.2.1 | exact c52 h9.2.2.2.2.1 | exact c63 h9.2.2.2.2.2)]; done) | (rw [if_pos (show okp q key kd x v dl from ⟨c6, c17, by first | exact Or.inl c23 | exact Or.inr c29, c40, c52, c63⟩)]; first | (rw [if_neg c95]; done) | (rw [if_pos c95]; first | (rw [if_pos c104]; done) | (rw [if_neg c104]; done)))), yPt hPf hτ⟩, hS.F hτ⟩) hS.2.2 dX3_post_83
            · replace c63 : rg 0 30 dl := b2_of1 c63
              refine lv_iconst (v := 1) hx hb dX3_post_66 (by decide) ?_
              refine lv_goto (tgt := 71) hx hb dX3_post_67 (by decide) ?_
              refine lv_istore (lv' := [(7, .int 1), (0, .ref (a 0)), (1, .int q), (2, .int key), (3, .int kd), (4, .int x), (5, .int v), (6, .int dl)]) hx hb dX3_post_71 hl (by decide) rfl (fun ls hl => ?_)
              refine lv_iload hx hb dX3_post_73 (lv_at hl 0 rfl) ?_
              refine lv_if_ne (tgt := 84) hx hb dX3_post_75 (by decide) (fun _ => ?_) (fun c9 => absurd c9 (by decide))
              refine lv_aload_n hx hb dX3_post_84 rfl (lv_at hl 1 rfl) ?_
              refine lv_iload_n hx hb dX3_post_85 rfl (lv_at hl 3 rfl) ?_
              refine y_roV (As := [.int key]) (rest := []) ⟨hx, hb, hml, hown, hts⟩ (c_X3_find l G k a C n0 M n1 d th key (by omega)) (cwV 1 hts gX3_post_X3_find rfl rfl rfl (by decide +kernel) ⟨Nat.le_of_ble_eq_true rfl, Nat.le_of_ble_eq_true rfl⟩) hK hP (va_recv hK hP (ci := 5) (q0 := 0) rfl rfl) rfl hl.1 rfl (Nat.le_of_ble_eq_true rfl) dX3_post_86 ⟨Nat.le_of_ble_eq_true rfl, Nat.le_of_ble_eq_true rfl⟩ (fun r hr9 => ?_)
              subst hr9
              refine lv_istore (lv' := [(8, .int (oI (fnd (M 1) key n1 0))), (7, .int 1), (0, .ref (a 0)), (1, .int q), (2, .int key), (3, .int kd), (4, .int x), (5, .int v), (6, .int dl)]) hx hb dX3_post_89 hl (by decide) rfl (fun ls hl => ?_)
              refine lv_aload_n hx hb dX3_post_91 rfl (lv_at hl 2 rfl) ?_
              refine lv_iload hx hb dX3_post_92 (lv_at hl 0 rfl) ?_
              refine lv_iconst (v := (-1)) hx hb dX3_post_94 (by decide) ?_
              refine lv_icmp_ne (tgt := 111) hx hb dX3_post_95 (by decide) (fun c95 => ?_) (fun c95 => ?_)
              · replace c95 : ¬ fnd (M 1) key n1 0 = none := fun h9 => c95 (by rw [h9]; rfl)
                refine lv_iconst (v := 0) hx hb dX3_post_111 (by decide) ?_
                refine va_put (D := G) (ci := 5) (v := .int 0) (ty := .int) (C := RX3) (T := TX3) (N := 19) hx hb hts hinX3 tyX3 tyX3_ok nmX3 hown hK hP hD hS 0 rfl rfl 18 (by decide) fl57 (fun _ h9 => h9) rfl (by decide +kernel) rfl rfl (Nat.le_of_ble_eq_true rfl) dX3_post_112 (fun H locs hP hD hS => ?_)
                have hP : va_P G vwCl (W3 k a C n0 M n1 d 0) H := hP
                have hD : va_D A (W3 k a C n0 M n1 d 0) := hD
                refine lv_aload_n hx hb dX3_post_115 rfl (lv_at hl 2 rfl) ?_
                refine va_get (D := G) (ci := 5) (v := .int 0) (C := RX3) (T := TX3) (N := 19) hx hb hts hinX3 hown hK hP 0 rfl rfl 18 (by decide) fl57 (fun _ h9 => h9) rfl dX3_post_116 ?_
                refine lv_if_le (tgt := 124) hx hb dX3_post_119 (by decide) (fun _ => ?_) (fun c9 => absurd c9 (by decide))
                refine lv_iload hx hb dX3_post_124 (lv_at hl 0 rfl) ?_
                refine lv_iconst (v := (-1)) hx hb dX3_post_126 (by decide) ?_
                refine lv_icmp_ne (tgt := 151) hx hb dX3_post_127 (by decide) (fun c127 => ?_) (fun c127 => ?_)
                · skip
                  refine lv_iload hx hb dX3_post_151 (lv_at hl 0 rfl) ?_
                  have hPf : va_P G vwCl (W3 k a C n0 ((o_post q key kd x v dl n0 M n1 d).2.2.1) ((o_post q key kd x v dl n0 M n1 d).2.2.2) d ((o_post q key kd x v dl n0 M n1 d).1)) H := by unfold o_post; first | (rw [if_neg (fun h9 => by first | exact c6 h9.1 | exact c17 h9.2.1 | exact h9.2.2.1.elim c23 c29 | exact c40 h9.2.2.2.1 | exact c52 h9.2.2.2.2.1 | exact c63 h9.2.2.2.2.2)]; exact hP) | (rw [if_pos (show okp q key kd x v dl from ⟨c6, c17, by first | exact Or.inl c23 | exact Or.inr c29, c40, c52, c63⟩)]; first | (rw [if_neg c95]; exact hP) | (rw [if_pos c95]; first | (rw [if_pos c104]; exact hP) | (rw [if_neg c104]; exact hP)))
                  exact W.iret (v := (oI (fnd (M 1) key n1 0))) hx hb hr (fun τ hτ hW => ⟨⟨_, (), rfl, (by unfold o_post; first | (rw [if_neg (fun h9 => by first | exact c6 h9.1 | exact c17 h9.2.1 | exact h9.2.2.1.elim c23 c29 | exact c40 h9.2.2.2.1 | exact c52 h9.2.2.2.2.1 | exact c63 h9.2.2.2.2.2)]; done) | (rw [if_pos (show okp q key kd x v dl from ⟨c6, c17, by first | exact Or.inl c23 | exact Or.inr c29, c40, c52, c63⟩)]; first | (rw [if_neg c95]; done) | (rw [if_pos c95]; first | (rw [if_pos c104]; done) | (rw [if_neg c104]; done)))), yPt hPf hτ⟩, hS.F hτ⟩) hS.2.2 dX3_post_153
                · exact absurd (oI_none (fun z h => by have := fnd_lt h; omega) c127) c95
              · replace c95 : fnd (M 1) key n1 0 = none := oI_none (fun z h => by have := fnd_lt h; omega) c95
                rw [c95] at hl
                refine lv_aload_n hx hb dX3_post_98 rfl (lv_at hl 2 rfl) ?_
                refine va_get (D := G) (ci := 5) (v := .int (nI n1)) (C := RX3) (T := TX3) (N := 19) hx hb hts hinX3 hown hK hP 0 rfl rfl 16 (by decide) fl68 (fun _ h9 => h9) rfl dX3_post_99 ?_
                refine lv_bipush (v := 80) hx hb dX3_post_102 (by decide) ?_
                refine lv_icmp_ne (tgt := 111) hx hb dX3_post_104 (by decide) (fun c104 => ?_) (fun c104 => ?_)
                · replace c104 : ¬ n1 = 80 := fun h9 => c104 ((nI_eq (a := n1) (b := 80) (by omega) (by omega)).mpr h9)
                  refine lv_iconst (v := 0) hx hb dX3_post_111 (by decide) ?_
                  refine va_put (D := G) (ci := 5) (v := .int 0) (ty := .int) (C := RX3) (T := TX3) (N := 19) hx hb hts hinX3 tyX3 tyX3_ok nmX3 hown hK hP hD hS 0 rfl rfl 18 (by decide) fl57 (fun _ h9 => h9) rfl (by decide +kernel) rfl rfl (Nat.le_of_ble_eq_true rfl) dX3_post_112 (fun H locs hP hD hS => ?_)
                  have hP : va_P G vwCl (W3 k a C n0 M n1 d 0) H := hP
                  have hD : va_D A (W3 k a C n0 M n1 d 0) := hD
                  refine lv_aload_n hx hb dX3_post_115 rfl (lv_at hl 2 rfl) ?_
                  refine va_get (D := G) (ci := 5) (v := .int 0) (C := RX3) (T := TX3) (N := 19) hx hb hts hinX3 hown hK hP 0 rfl rfl 18 (by decide) fl57 (fun _ h9 => h9) rfl dX3_post_116 ?_
                  refine lv_if_le (tgt := 124) hx hb dX3_post_119 (by decide) (fun _ => ?_) (fun c9 => absurd c9 (by decide))
                  refine lv_iload hx hb dX3_post_124 (lv_at hl 0 rfl) ?_
                  refine lv_iconst (v := (-1)) hx hb dX3_post_126 (by decide) ?_
                  refine lv_icmp_ne (tgt := 151) hx hb dX3_post_127 (by decide) (fun c9 => absurd c9 (by decide)) (fun _ => ?_)
                  refine lv_aload_n hx hb dX3_post_130 rfl (lv_at hl 2 rfl) ?_
                  refine lv_iload_n hx hb dX3_post_131 rfl (lv_at hl 3 rfl) ?_
                  refine lv_iload_n hx hb dX3_post_132 rfl (lv_at hl 4 rfl) ?_
                  refine lv_iload_n hx hb dX3_post_133 rfl (lv_at hl 5 rfl) ?_
                  refine lv_iload hx hb dX3_post_134 (lv_at hl 6 rfl) ?_
                  refine lv_iload hx hb dX3_post_136 (lv_at hl 7 rfl) ?_
                  refine lv_aload_n hx hb dX3_post_138 rfl (lv_at hl 2 rfl) ?_
                  refine va_get (D := G) (ci := 5) (v := .int (nI d)) (C := RX3) (T := TX3) (N := 19) hx hb hts hinX3 hown hK hP 0 rfl rfl 17 (by decide) fl71 (fun _ h9 => h9) rfl dX3_post_139 ?_
                  refine lv_iload hx hb dX3_post_142 (lv_at hl 8 rfl) ?_
                  refine lv_iadd hx hb dX3_post_144 ?_
                  have hfr9 : ∀ q, va_A (W3 k a C n0 M n1 d 0) _ q → A q := va_free hD hS hA [0, 1, 2, 3, 4, 5, 6, 7, 8, 9, 10, 11, 12, 13, 14, 15] rfl
                  refine y_rwV (w := W3 k a C n0 M n1 d 0) (w' := fun (_ : Unit) => W3 k a C n0 (mad2 M n1 q key kd x v ((nI d) + dl) (if x < nI n0 then 119 else 104)) (n1 + 1) d 0) (As := [.int q, .int key, .int kd, .int x, .int v, .int ((nI d) + dl)]) (rest := []) ⟨hx, hb, hml, hown, hts⟩ (c_X3_adds l G k a C n0 M n1 d 0 _ q key kd x v ((nI d) + dl) (yD hND rfl) (by omega) (by first | (rw [c23]; decide) | (rw [c29]; decide))) (cwV 6 hts gX3_post_X3_adds rfl rfl rfl (by decide +kernel) ⟨Nat.le_of_ble_eq_true rfl, Nat.le_of_ble_eq_true rfl⟩) hK hP (va_recv hK hP (ci := 5) (q0 := 0) rfl rfl) hS hfr9 rfl hl.1 rfl (Nat.le_of_ble_eq_true rfl) dX3_post_145 ⟨Nat.le_of_ble_eq_true rfl, Nat.le_of_ble_eq_true rfl⟩ (fun r u9 H1 locs1 hr9 hP9 hz9 hk9 hS9 => ?_)
                  have hP9 : va_P G vwCl (W3 k a C n0 (mad2 M n1 q key kd x v ((nI d) + dl) (if x < nI n0 then 119 else 104)) (n1 + 1) d 0) H1 := hP9
                  have hD9 : va_D A (W3 k a C n0 (mad2 M n1 q key kd x v ((nI d) + dl) (if x < nI n0 then 119 else 104)) (n1 + 1) d 0) := yD hD rfl
                  clear hP hD hS hfr9 hz9 hk9
                  have hP := hP9
                  have hD := hD9
                  have hS := hS9
                  clear hP9 hD9 hS9
                  subst hr9
                  refine lv_goto (tgt := 153) hx hb dX3_post_148 (by decide) ?_
                  have hPf : va_P G vwCl (W3 k a C n0 ((o_post q key kd x v dl n0 M n1 d).2.2.1) ((o_post q key kd x v dl n0 M n1 d).2.2.2) d ((o_post q key kd x v dl n0 M n1 d).1)) H1 := by unfold o_post; first | (rw [if_neg (fun h9 => by first | exact c6 h9.1 | exact c17 h9.2.1 | exact h9.2.2.1.elim c23 c29 | exact c40 h9.2.2.2.1 | exact c52 h9.2.2.2.2.1 | exact c63 h9.2.2.2.2.2)]; exact hP) | (rw [if_pos (show okp q key kd x v dl from ⟨c6, c17, by first | exact Or.inl c23 | exact Or.inr c29, c40, c52, c63⟩)]; first | (rw [if_neg c95]; exact hP) | (rw [if_pos c95]; first | (rw [if_pos c104]; exact hP) | (rw [if_neg c104]; exact hP)))
                  exact W.iret (v := (nI n1)) hx hb hr (fun τ hτ hW => ⟨⟨_, (), rfl, (by unfold o_post; first | (rw [if_neg (fun h9 => by first | exact c6 h9.1 | exact c17 h9.2.1 | exact h9.2.2.1.elim c23 c29 | exact c40 h9.2.2.2.1 | exact c52 h9.2.2.2.2.1 | exact c63 h9.2.2.2.2.2)]; done) | (rw [if_pos (show okp q key kd x v dl from ⟨c6, c17, by first | exact Or.inl c23 | exact Or.inr c29, c40, c52, c63⟩)]; first | (rw [if_neg c95]; done) | (rw [if_pos c95]; first | (rw [if_pos c104]; done) | (rw [if_neg c104]; done)))), yPt hPf hτ⟩, hS.F hτ⟩) hS.2.2 dX3_post_153
                · replace c104 : n1 = 80 := (nI_eq (a := n1) (b := 80) (by omega) (by omega)).mp c104
                  refine lv_iconst (v := 2) hx hb dX3_post_107 (by decide) ?_
                  refine lv_goto (tgt := 112) hx hb dX3_post_108 (by decide) ?_
                  refine va_put (D := G) (ci := 5) (v := .int 2) (ty := .int) (C := RX3) (T := TX3) (N := 19) hx hb hts hinX3 tyX3 tyX3_ok nmX3 hown hK hP hD hS 0 rfl rfl 18 (by decide) fl57 (fun _ h9 => h9) rfl (by decide +kernel) rfl rfl (Nat.le_of_ble_eq_true rfl) dX3_post_112 (fun H locs hP hD hS => ?_)
                  have hP : va_P G vwCl (W3 k a C n0 M n1 d 2) H := hP
                  have hD : va_D A (W3 k a C n0 M n1 d 2) := hD
                  refine lv_aload_n hx hb dX3_post_115 rfl (lv_at hl 2 rfl) ?_
                  refine va_get (D := G) (ci := 5) (v := .int 2) (C := RX3) (T := TX3) (N := 19) hx hb hts hinX3 hown hK hP 0 rfl rfl 18 (by decide) fl57 (fun _ h9 => h9) rfl dX3_post_116 ?_
                  refine lv_if_le (tgt := 124) hx hb dX3_post_119 (by decide) (fun c9 => absurd c9 (by decide)) (fun _ => ?_)
                  refine lv_iconst (v := 0) hx hb dX3_post_122 (by decide) ?_
                  have hPf : va_P G vwCl (W3 k a C n0 ((o_post q key kd x v dl n0 M n1 d).2.2.1) ((o_post q key kd x v dl n0 M n1 d).2.2.2) d ((o_post q key kd x v dl n0 M n1 d).1)) H := by unfold o_post; first | (rw [if_neg (fun h9 => by first | exact c6 h9.1 | exact c17 h9.2.1 | exact h9.2.2.1.elim c23 c29 | exact c40 h9.2.2.2.1 | exact c52 h9.2.2.2.2.1 | exact c63 h9.2.2.2.2.2)]; exact hP) | (rw [if_pos (show okp q key kd x v dl from ⟨c6, c17, by first | exact Or.inl c23 | exact Or.inr c29, c40, c52, c63⟩)]; first | (rw [if_neg c95]; exact hP) | (rw [if_pos c95]; first | (rw [if_pos c104]; exact hP) | (rw [if_neg c104]; exact hP)))
                  exact W.iret (v := 0) hx hb hr (fun τ hτ hW => ⟨⟨_, (), rfl, (by unfold o_post; first | (rw [if_neg (fun h9 => by first | exact c6 h9.1 | exact c17 h9.2.1 | exact h9.2.2.1.elim c23 c29 | exact c40 h9.2.2.2.1 | exact c52 h9.2.2.2.2.1 | exact c63 h9.2.2.2.2.2)]; done) | (rw [if_pos (show okp q key kd x v dl from ⟨c6, c17, by first | exact Or.inl c23 | exact Or.inr c29, c40, c52, c63⟩)]; first | (rw [if_neg c95]; done) | (rw [if_pos c95]; first | (rw [if_pos c104]; done) | (rw [if_neg c104]; done)))), yPt hPf hτ⟩, hS.F hτ⟩) hS.2.2 dX3_post_123
      · skip
        refine lv_iload_n hx hb dX3_post_26 rfl (lv_at hl 3 rfl) ?_
        refine lv_bipush (v := 110) hx hb dX3_post_27 (by decide) ?_
        refine lv_icmp_ne (tgt := 70) hx hb dX3_post_29 (by decide) (fun c29 => ?_) (fun c29 => ?_)
        · skip
          refine lv_iconst (v := 0) hx hb dX3_post_70 (by decide) ?_
          refine lv_istore (lv' := [(7, .int 0), (0, .ref (a 0)), (1, .int q), (2, .int key), (3, .int kd), (4, .int x), (5, .int v), (6, .int dl)]) hx hb dX3_post_71 hl (by decide) rfl (fun ls hl => ?_)
          refine lv_iload hx hb dX3_post_73 (lv_at hl 0 rfl) ?_
          refine lv_if_ne (tgt := 84) hx hb dX3_post_75 (by decide) (fun c9 => absurd c9 (by decide)) (fun _ => ?_)
          refine lv_aload_n hx hb dX3_post_78 rfl (lv_at hl 1 rfl) ?_
          refine lv_iconst (v := 1) hx hb dX3_post_79 (by decide) ?_
          have hfr9 : ∀ q, va_A (W3 k a C n0 M n1 d th) _ q → A q := va_free hD hS hA [0, 1, 2, 3, 4, 5, 6, 7, 8, 9, 10, 11, 12, 13, 14, 15] rfl
          refine y_rwV (w := W3 k a C n0 M n1 d th) (w' := fun (_ : Unit) => W3 k a C n0 M n1 d 1) (As := [.int 1]) (rest := []) ⟨hx, hb, hml, hown, hts⟩ (c_X3_raises l G k a C n0 M n1 d th _ 1 (yD hND rfl) ) (cwV 1 hts gX3_post_X3_raises rfl rfl rfl (by decide +kernel) ⟨Nat.le_of_ble_eq_true rfl, Nat.le_of_ble_eq_true rfl⟩) hK hP (va_recv hK hP (ci := 5) (q0 := 0) rfl rfl) hS hfr9 rfl hl.1 rfl (Nat.le_of_ble_eq_true rfl) dX3_post_80 ⟨Nat.le_of_ble_eq_true rfl, Nat.le_of_ble_eq_true rfl⟩ (fun r u9 H1 locs1 hr9 hP9 hz9 hk9 hS9 => ?_)
          have hP9 : va_P G vwCl (W3 k a C n0 M n1 d 1) H1 := hP9
          have hD9 : va_D A (W3 k a C n0 M n1 d 1) := yD hD rfl
          clear hP hD hS hfr9 hz9 hk9
          have hP := hP9
          have hD := hD9
          have hS := hS9
          clear hP9 hD9 hS9
          subst hr9
          have hPf : va_P G vwCl (W3 k a C n0 ((o_post q key kd x v dl n0 M n1 d).2.2.1) ((o_post q key kd x v dl n0 M n1 d).2.2.2) d ((o_post q key kd x v dl n0 M n1 d).1)) H1 := by unfold o_post; first | (rw [if_neg (fun h9 => by first | exact c6 h9.1 | exact c17 h9.2.1 | exact h9.2.2.1.elim c23 c29 | exact c40 h9.2.2.2.1 | exact c52 h9.2.2.2.2.1 | exact c63 h9.2.2.2.2.2)]; exact hP) | (rw [if_pos (show okp q key kd x v dl from ⟨c6, c17, by first | exact Or.inl c23 | exact Or.inr c29, c40, c52, c63⟩)]; first | (rw [if_neg c95]; exact hP) | (rw [if_pos c95]; first | (rw [if_pos c104]; exact hP) | (rw [if_neg c104]; exact hP)))
          exact W.iret (v := 0) hx hb hr (fun τ hτ hW => ⟨⟨_, (), rfl, (by unfold o_post; first | (rw [if_neg (fun h9 => by first | exact c6 h9.1 | exact c17 h9.2.1 | exact h9.2.2.1.elim c23 c29 | exact c40 h9.2.2.2.1 | exact c52 h9.2.2.2.2.1 | exact c63 h9.2.2.2.2.2)]; done) | (rw [if_pos (show okp q key kd x v dl from ⟨c6, c17, by first | exact Or.inl c23 | exact Or.inr c29, c40, c52, c63⟩)]; first | (rw [if_neg c95]; done) | (rw [if_pos c95]; first | (rw [if_pos c104]; done) | (rw [if_neg c104]; done)))), yPt hPf hτ⟩, hS.F hτ⟩) hS.2.2 dX3_post_83
        · skip
          refine lv_iload hx hb dX3_post_32 (lv_at hl 4 rfl) ?_
          refine lv_iconst (v := 0) hx hb dX3_post_34 (by decide) ?_
          refine lv_bipush (v := 7) hx hb dX3_post_35 (by decide) ?_
          refine y_roS (As := [.int x, .int 0, .int 7]) (rest := []) ⟨hx, hb, hml, hown, hts⟩ (c_X3_in l x 0 7 ) (va_cwS 3 hts gX3_post_X3_in rfl rfl rfl (by decide +kernel) ⟨Nat.le_of_ble_eq_true rfl, Nat.le_of_ble_eq_true rfl⟩) rfl hl.1 rfl (Nat.le_of_ble_eq_true rfl) dX3_post_37 ⟨Nat.le_of_ble_eq_true rfl, Nat.le_of_ble_eq_true rfl⟩ (fun r hr9 => ?_)
          subst hr9
          refine lv_if_eq (tgt := 70) hx hb dX3_post_40 (by decide) (fun c40 => ?_) (fun c40 => ?_)
          · replace c40 : ¬ (rg 0 7 x) := b2_of0 c40
            refine lv_iconst (v := 0) hx hb dX3_post_70 (by decide) ?_
            refine lv_istore (lv' := [(7, .int 0), (0, .ref (a 0)), (1, .int q), (2, .int key), (3, .int kd), (4, .int x), (5, .int v), (6, .int dl)]) hx hb dX3_post_71 hl (by decide) rfl (fun ls hl => ?_)
            refine lv_iload hx hb dX3_post_73 (lv_at hl 0 rfl) ?_
            refine lv_if_ne (tgt := 84) hx hb dX3_post_75 (by decide) (fun c9 => absurd c9 (by decide)) (fun _ => ?_)
            refine lv_aload_n hx hb dX3_post_78 rfl (lv_at hl 1 rfl) ?_
            refine lv_iconst (v := 1) hx hb dX3_post_79 (by decide) ?_
            have hfr9 : ∀ q, va_A (W3 k a C n0 M n1 d th) _ q → A q := va_free hD hS hA [0, 1, 2, 3, 4, 5, 6, 7, 8, 9, 10, 11, 12, 13, 14, 15] rfl
            refine y_rwV (w := W3 k a C n0 M n1 d th) (w' := fun (_ : Unit) => W3 k a C n0 M n1 d 1) (As := [.int 1]) (rest := []) ⟨hx, hb, hml, hown, hts⟩ (c_X3_raises l G k a C n0 M n1 d th _ 1 (yD hND rfl) ) (cwV 1 hts gX3_post_X3_raises rfl rfl rfl (by decide +kernel) ⟨Nat.le_of_ble_eq_true rfl, Nat.le_of_ble_eq_true rfl⟩) hK hP (va_recv hK hP (ci := 5) (q0 := 0) rfl rfl) hS hfr9 rfl hl.1 rfl (Nat.le_of_ble_eq_true rfl) dX3_post_80 ⟨Nat.le_of_ble_eq_true rfl, Nat.le_of_ble_eq_true rfl⟩ (fun r u9 H1 locs1 hr9 hP9 hz9 hk9 hS9 => ?_)
            have hP9 : va_P G vwCl (W3 k a C n0 M n1 d 1) H1 := hP9
            have hD9 : va_D A (W3 k a C n0 M n1 d 1) := yD hD rfl
            clear hP hD hS hfr9 hz9 hk9
            have hP := hP9
            have hD := hD9
            have hS := hS9
            clear hP9 hD9 hS9
            subst hr9
            have hPf : va_P G vwCl (W3 k a C n0 ((o_post q key kd x v dl n0 M n1 d).2.2.1) ((o_post q key kd x v dl n0 M n1 d).2.2.2) d ((o_post q key kd x v dl n0 M n1 d).1)) H1 := by unfold o_post; first | (rw [if_neg (fun h9 => by first | exact c6 h9.1 | exact c17 h9.2.1 | exact h9.2.2.1.elim c23 c29 | exact c40 h9.2.2.2.1 | exact c52 h9.2.2.2.2.1 | exact c63 h9.2.2.2.2.2)]; exact hP) | (rw [if_pos (show okp q key kd x v dl from ⟨c6, c17, by first | exact Or.inl c23 | exact Or.inr c29, c40, c52, c63⟩)]; first | (rw [if_neg c95]; exact hP) | (rw [if_pos c95]; first | (rw [if_pos c104]; exact hP) | (rw [if_neg c104]; exact hP)))
            exact W.iret (v := 0) hx hb hr (fun τ hτ hW => ⟨⟨_, (), rfl, (by unfold o_post; first | (rw [if_neg (fun h9 => by first | exact c6 h9.1 | exact c17 h9.2.1 | exact h9.2.2.1.elim c23 c29 | exact c40 h9.2.2.2.1 | exact c52 h9.2.2.2.2.1 | exact c63 h9.2.2.2.2.2)]; done) | (rw [if_pos (show okp q key kd x v dl from ⟨c6, c17, by first | exact Or.inl c23 | exact Or.inr c29, c40, c52, c63⟩)]; first | (rw [if_neg c95]; done) | (rw [if_pos c95]; first | (rw [if_pos c104]; done) | (rw [if_neg c104]; done)))), yPt hPf hτ⟩, hS.F hτ⟩) hS.2.2 dX3_post_83
          · replace c40 : rg 0 7 x := b2_of1 c40
            refine lv_iload hx hb dX3_post_43 (lv_at hl 5 rfl) ?_
            refine lv_iconst (v := 0) hx hb dX3_post_45 (by decide) ?_
            refine lv_sipush (v := 9999) hx hb dX3_post_46 (by decide) ?_
            refine y_roS (As := [.int v, .int 0, .int 9999]) (rest := []) ⟨hx, hb, hml, hown, hts⟩ (c_X3_in l v 0 9999 ) (va_cwS 3 hts gX3_post_X3_in rfl rfl rfl (by decide +kernel) ⟨Nat.le_of_ble_eq_true rfl, Nat.le_of_ble_eq_true rfl⟩) rfl hl.1 rfl (Nat.le_of_ble_eq_true rfl) dX3_post_49 ⟨Nat.le_of_ble_eq_true rfl, Nat.le_of_ble_eq_true rfl⟩ (fun r hr9 => ?_)
            subst hr9
            refine lv_if_eq (tgt := 70) hx hb dX3_post_52 (by decide) (fun c52 => ?_) (fun c52 => ?_)
            · replace c52 : ¬ (rg 0 9999 v) := b2_of0 c52
              refine lv_iconst (v := 0) hx hb dX3_post_70 (by decide) ?_
              refine lv_istore (lv' := [(7, .int 0), (0, .ref (a 0)), (1, .int q), (2, .int key), (3, .int kd), (4, .int x), (5, .int v), (6, .int dl)]) hx hb dX3_post_71 hl (by decide) rfl (fun ls hl => ?_)
              refine lv_iload hx hb dX3_post_73 (lv_at hl 0 rfl) ?_
              refine lv_if_ne (tgt := 84) hx hb dX3_post_75 (by decide) (fun c9 => absurd c9 (by decide)) (fun _ => ?_)
              refine lv_aload_n hx hb dX3_post_78 rfl (lv_at hl 1 rfl) ?_
              refine lv_iconst (v := 1) hx hb dX3_post_79 (by decide) ?_
              have hfr9 : ∀ q, va_A (W3 k a C n0 M n1 d th) _ q → A q := va_free hD hS hA [0, 1, 2, 3, 4, 5, 6, 7, 8, 9, 10, 11, 12, 13, 14, 15] rfl
              refine y_rwV (w := W3 k a C n0 M n1 d th) (w' := fun (_ : Unit) => W3 k a C n0 M n1 d 1) (As := [.int 1]) (rest := []) ⟨hx, hb, hml, hown, hts⟩ (c_X3_raises l G k a C n0 M n1 d th _ 1 (yD hND rfl) ) (cwV 1 hts gX3_post_X3_raises rfl rfl rfl (by decide +kernel) ⟨Nat.le_of_ble_eq_true rfl, Nat.le_of_ble_eq_true rfl⟩) hK hP (va_recv hK hP (ci := 5) (q0 := 0) rfl rfl) hS hfr9 rfl hl.1 rfl (Nat.le_of_ble_eq_true rfl) dX3_post_80 ⟨Nat.le_of_ble_eq_true rfl, Nat.le_of_ble_eq_true rfl⟩ (fun r u9 H1 locs1 hr9 hP9 hz9 hk9 hS9 => ?_)
              have hP9 : va_P G vwCl (W3 k a C n0 M n1 d 1) H1 := hP9
              have hD9 : va_D A (W3 k a C n0 M n1 d 1) := yD hD rfl
              clear hP hD hS hfr9 hz9 hk9
              have hP := hP9
              have hD := hD9
              have hS := hS9
              clear hP9 hD9 hS9
              subst hr9
              have hPf : va_P G vwCl (W3 k a C n0 ((o_post q key kd x v dl n0 M n1 d).2.2.1) ((o_post q key kd x v dl n0 M n1 d).2.2.2) d ((o_post q key kd x v dl n0 M n1 d).1)) H1 := by unfold o_post; first | (rw [if_neg (fun h9 => by first | exact c6 h9.1 | exact c17 h9.2.1 | exact h9.2.2.1.elim c23 c29 | exact c40 h9.2.2.2.1 | exact c52 h9.2.2.2.2.1 | exact c63 h9.2.2.2.2.2)]; exact hP) | (rw [if_pos (show okp q key kd x v dl from ⟨c6, c17, by first | exact Or.inl c23 | exact Or.inr c29, c40, c52, c63⟩)]; first | (rw [if_neg c95]; exact hP) | (rw [if_pos c95]; first | (rw [if_pos c104]; exact hP) | (rw [if_neg c104]; exact hP)))
              exact W.iret (v := 0) hx hb hr (fun τ hτ hW => ⟨⟨_, (), rfl, (by unfold o_post; first | (rw [if_neg (fun h9 => by first | exact c6 h9.1 | exact c17 h9.2.1 | exact h9.2.2.1.elim c23 c29 | exact c40 h9.2.2.2.1 | exact c52 h9.2.2.2.2.1 | exact c63 h9.2.2.2.2.2)]; done) | (rw [if_pos (show okp q key kd x v dl from ⟨c6, c17, by first | exact Or.inl c23 | exact Or.inr c29, c40, c52, c63⟩)]; first | (rw [if_neg c95]; done) | (rw [if_pos c95]; first | (rw [if_pos c104]; done) | (rw [if_neg c104]; done)))), yPt hPf hτ⟩, hS.F hτ⟩) hS.2.2 dX3_post_83
            · replace c52 : rg 0 9999 v := b2_of1 c52
              refine lv_iload hx hb dX3_post_55 (lv_at hl 6 rfl) ?_
              refine lv_iconst (v := 0) hx hb dX3_post_57 (by decide) ?_
              refine lv_bipush (v := 30) hx hb dX3_post_58 (by decide) ?_
              refine y_roS (As := [.int dl, .int 0, .int 30]) (rest := []) ⟨hx, hb, hml, hown, hts⟩ (c_X3_in l dl 0 30 ) (va_cwS 3 hts gX3_post_X3_in rfl rfl rfl (by decide +kernel) ⟨Nat.le_of_ble_eq_true rfl, Nat.le_of_ble_eq_true rfl⟩) rfl hl.1 rfl (Nat.le_of_ble_eq_true rfl) dX3_post_60 ⟨Nat.le_of_ble_eq_true rfl, Nat.le_of_ble_eq_true rfl⟩ (fun r hr9 => ?_)
              subst hr9
              refine lv_if_eq (tgt := 70) hx hb dX3_post_63 (by decide) (fun c63 => ?_) (fun c63 => ?_)
              · replace c63 : ¬ (rg 0 30 dl) := b2_of0 c63
                refine lv_iconst (v := 0) hx hb dX3_post_70 (by decide) ?_
                refine lv_istore (lv' := [(7, .int 0), (0, .ref (a 0)), (1, .int q), (2, .int key), (3, .int kd), (4, .int x), (5, .int v), (6, .int dl)]) hx hb dX3_post_71 hl (by decide) rfl (fun ls hl => ?_)
                refine lv_iload hx hb dX3_post_73 (lv_at hl 0 rfl) ?_
                refine lv_if_ne (tgt := 84) hx hb dX3_post_75 (by decide) (fun c9 => absurd c9 (by decide)) (fun _ => ?_)
                refine lv_aload_n hx hb dX3_post_78 rfl (lv_at hl 1 rfl) ?_
                refine lv_iconst (v := 1) hx hb dX3_post_79 (by decide) ?_
                have hfr9 : ∀ q, va_A (W3 k a C n0 M n1 d th) _ q → A q := va_free hD hS hA [0, 1, 2, 3, 4, 5, 6, 7, 8, 9, 10, 11, 12, 13, 14, 15] rfl
                refine y_rwV (w := W3 k a C n0 M n1 d th) (w' := fun (_ : Unit) => W3 k a C n0 M n1 d 1) (As := [.int 1]) (rest := []) ⟨hx, hb, hml, hown, hts⟩ (c_X3_raises l G k a C n0 M n1 d th _ 1 (yD hND rfl) ) (cwV 1 hts gX3_post_X3_raises rfl rfl rfl (by decide +kernel) ⟨Nat.le_of_ble_eq_true rfl, Nat.le_of_ble_eq_true rfl⟩) hK hP (va_recv hK hP (ci := 5) (q0 := 0) rfl rfl) hS hfr9 rfl hl.1 rfl (Nat.le_of_ble_eq_true rfl) dX3_post_80 ⟨Nat.le_of_ble_eq_true rfl, Nat.le_of_ble_eq_true rfl⟩ (fun r u9 H1 locs1 hr9 hP9 hz9 hk9 hS9 => ?_)
                have hP9 : va_P G vwCl (W3 k a C n0 M n1 d 1) H1 := hP9
                have hD9 : va_D A (W3 k a C n0 M n1 d 1) := yD hD rfl
                clear hP hD hS hfr9 hz9 hk9
                have hP := hP9
                have hD := hD9
                have hS := hS9
                clear hP9 hD9 hS9
                subst hr9
                have hPf : va_P G vwCl (W3 k a C n0 ((o_post q key kd x v dl n0 M n1 d).2.2.1) ((o_post q key kd x v dl n0 M n1 d).2.2.2) d ((o_post q key kd x v dl n0 M n1 d).1)) H1 := by unfold o_post; first | (rw [if_neg (fun h9 => by first | exact c6 h9.1 | exact c17 h9.2.1 | exact h9.2.2.1.elim c23 c29 | exact c40 h9.2.2.2.1 | exact c52 h9.2.2.2.2.1 | exact c63 h9.2.2.2.2.2)]; exact hP) | (rw [if_pos (show okp q key kd x v dl from ⟨c6, c17, by first | exact Or.inl c23 | exact Or.inr c29, c40, c52, c63⟩)]; first | (rw [if_neg c95]; exact hP) | (rw [if_pos c95]; first | (rw [if_pos c104]; exact hP) | (rw [if_neg c104]; exact hP)))
                exact W.iret (v := 0) hx hb hr (fun τ hτ hW => ⟨⟨_, (), rfl, (by unfold o_post; first | (rw [if_neg (fun h9 => by first | exact c6 h9.1 | exact c17 h9.2.1 | exact h9.2.2.1.elim c23 c29 | exact c40 h9.2.2.2.1 | exact c52 h9.2.2.2.2.1 | exact c63 h9.2.2.2.2.2)]; done) | (rw [if_pos (show okp q key kd x v dl from ⟨c6, c17, by first | exact Or.inl c23 | exact Or.inr c29, c40, c52, c63⟩)]; first | (rw [if_neg c95]; done) | (rw [if_pos c95]; first | (rw [if_pos c104]; done) | (rw [if_neg c104]; done)))), yPt hPf hτ⟩, hS.F hτ⟩) hS.2.2 dX3_post_83
              · replace c63 : rg 0 30 dl := b2_of1 c63
                refine lv_iconst (v := 1) hx hb dX3_post_66 (by decide) ?_
                refine lv_goto (tgt := 71) hx hb dX3_post_67 (by decide) ?_
                refine lv_istore (lv' := [(7, .int 1), (0, .ref (a 0)), (1, .int q), (2, .int key), (3, .int kd), (4, .int x), (5, .int v), (6, .int dl)]) hx hb dX3_post_71 hl (by decide) rfl (fun ls hl => ?_)
                refine lv_iload hx hb dX3_post_73 (lv_at hl 0 rfl) ?_
                refine lv_if_ne (tgt := 84) hx hb dX3_post_75 (by decide) (fun _ => ?_) (fun c9 => absurd c9 (by decide))
                refine lv_aload_n hx hb dX3_post_84 rfl (lv_at hl 1 rfl) ?_
                refine lv_iload_n hx hb dX3_post_85 rfl (lv_at hl 3 rfl) ?_
                refine y_roV (As := [.int key]) (rest := []) ⟨hx, hb, hml, hown, hts⟩ (c_X3_find l G k a C n0 M n1 d th key (by omega)) (cwV 1 hts gX3_post_X3_find rfl rfl rfl (by decide +kernel) ⟨Nat.le_of_ble_eq_true rfl, Nat.le_of_ble_eq_true rfl⟩) hK hP (va_recv hK hP (ci := 5) (q0 := 0) rfl rfl) rfl hl.1 rfl (Nat.le_of_ble_eq_true rfl) dX3_post_86 ⟨Nat.le_of_ble_eq_true rfl, Nat.le_of_ble_eq_true rfl⟩ (fun r hr9 => ?_)
                subst hr9
                refine lv_istore (lv' := [(8, .int (oI (fnd (M 1) key n1 0))), (7, .int 1), (0, .ref (a 0)), (1, .int q), (2, .int key), (3, .int kd), (4, .int x), (5, .int v), (6, .int dl)]) hx hb dX3_post_89 hl (by decide) rfl (fun ls hl => ?_)
                refine lv_aload_n hx hb dX3_post_91 rfl (lv_at hl 2 rfl) ?_
                refine lv_iload hx hb dX3_post_92 (lv_at hl 0 rfl) ?_
                refine lv_iconst (v := (-1)) hx hb dX3_post_94 (by decide) ?_
                refine lv_icmp_ne (tgt := 111) hx hb dX3_post_95 (by decide) (fun c95 => ?_) (fun c95 => ?_)
                · replace c95 : ¬ fnd (M 1) key n1 0 = none := fun h9 => c95 (by rw [h9]; rfl)
                  refine lv_iconst (v := 0) hx hb dX3_post_111 (by decide) ?_
                  refine va_put (D := G) (ci := 5) (v := .int 0) (ty := .int) (C := RX3) (T := TX3) (N := 19) hx hb hts hinX3 tyX3 tyX3_ok nmX3 hown hK hP hD hS 0 rfl rfl 18 (by decide) fl57 (fun _ h9 => h9) rfl (by decide +kernel) rfl rfl (Nat.le_of_ble_eq_true rfl) dX3_post_112 (fun H locs hP hD hS => ?_)
                  have hP : va_P G vwCl (W3 k a C n0 M n1 d 0) H := hP
                  have hD : va_D A (W3 k a C n0 M n1 d 0) := hD
                  refine lv_aload_n hx hb dX3_post_115 rfl (lv_at hl 2 rfl) ?_
                  refine va_get (D := G) (ci := 5) (v := .int 0) (C := RX3) (T := TX3) (N := 19) hx hb hts hinX3 hown hK hP 0 rfl rfl 18 (by decide) fl57 (fun _ h9 => h9) rfl dX3_post_116 ?_
                  refine lv_if_le (tgt := 124) hx hb dX3_post_119 (by decide) (fun _ => ?_) (fun c9 => absurd c9 (by decide))
                  refine lv_iload hx hb dX3_post_124 (lv_at hl 0 rfl) ?_
                  refine lv_iconst (v := (-1)) hx hb dX3_post_126 (by decide) ?_
                  refine lv_icmp_ne (tgt := 151) hx hb dX3_post_127 (by decide) (fun c127 => ?_) (fun c127 => ?_)
                  · skip
                    refine lv_iload hx hb dX3_post_151 (lv_at hl 0 rfl) ?_
                    have hPf : va_P G vwCl (W3 k a C n0 ((o_post q key kd x v dl n0 M n1 d).2.2.1) ((o_post q key kd x v dl n0 M n1 d).2.2.2) d ((o_post q key kd x v dl n0 M n1 d).1)) H := by unfold o_post; first | (rw [if_neg (fun h9 => by first | exact c6 h9.1 | exact c17 h9.2.1 | exact h9.2.2.1.elim c23 c29 | exact c40 h9.2.2.2.1 | exact c52 h9.2.2.2.2.1 | exact c63 h9.2.2.2.2.2)]; exact hP) | (rw [if_pos (show okp q key kd x v dl from ⟨c6, c17, by first | exact Or.inl c23 | exact Or.inr c29, c40, c52, c63⟩)]; first | (rw [if_neg c95]; exact hP) | (rw [if_pos c95]; first | (rw [if_pos c104]; exact hP) | (rw [if_neg c104]; exact hP)))
                    exact W.iret (v := (oI (fnd (M 1) key n1 0))) hx hb hr (fun τ hτ hW => ⟨⟨_, (), rfl, (by unfold o_post; first | (rw [if_neg (fun h9 => by first | exact c6 h9.1 | exact c17 h9.2.1 | exact h9.2.2.1.elim c23 c29 | exact c40 h9.2.2.2.1 | exact c52 h9.2.2.2.2.1 | exact c63 h9.2.2.2.2.2)]; done) | (rw [if_pos (show okp q key kd x v dl from ⟨c6, c17, by first | exact Or.inl c23 | exact Or.inr c29, c40, c52, c63⟩)]; first | (rw [if_neg c95]; done) | (rw [if_pos c95]; first | (rw [if_pos c104]; done) | (rw [if_neg c104]; done)))), yPt hPf hτ⟩, hS.F hτ⟩) hS.2.2 dX3_post_153
                  · exact absurd (oI_none (fun z h => by have := fnd_lt h; omega) c127) c95
                · replace c95 : fnd (M 1) key n1 0 = none := oI_none (fun z h => by have := fnd_lt h; omega) c95
                  rw [c95] at hl
                  refine lv_aload_n hx hb dX3_post_98 rfl (lv_at hl 2 rfl) ?_
                  refine va_get (D := G) (ci := 5) (v := .int (nI n1)) (C := RX3) (T := TX3) (N := 19) hx hb hts hinX3 hown hK hP 0 rfl rfl 16 (by decide) fl68 (fun _ h9 => h9) rfl dX3_post_99 ?_
                  refine lv_bipush (v := 80) hx hb dX3_post_102 (by decide) ?_
                  refine lv_icmp_ne (tgt := 111) hx hb dX3_post_104 (by decide) (fun c104 => ?_) (fun c104 => ?_)
                  · replace c104 : ¬ n1 = 80 := fun h9 => c104 ((nI_eq (a := n1) (b := 80) (by omega) (by omega)).mpr h9)
                    refine lv_iconst (v := 0) hx hb dX3_post_111 (by decide) ?_
                    refine va_put (D := G) (ci := 5) (v := .int 0) (ty := .int) (C := RX3) (T := TX3) (N := 19) hx hb hts hinX3 tyX3 tyX3_ok nmX3 hown hK hP hD hS 0 rfl rfl 18 (by decide) fl57 (fun _ h9 => h9) rfl (by decide +kernel) rfl rfl (Nat.le_of_ble_eq_true rfl) dX3_post_112 (fun H locs hP hD hS => ?_)
                    have hP : va_P G vwCl (W3 k a C n0 M n1 d 0) H := hP
                    have hD : va_D A (W3 k a C n0 M n1 d 0) := hD
                    refine lv_aload_n hx hb dX3_post_115 rfl (lv_at hl 2 rfl) ?_
                    refine va_get (D := G) (ci := 5) (v := .int 0) (C := RX3) (T := TX3) (N := 19) hx hb hts hinX3 hown hK hP 0 rfl rfl 18 (by decide) fl57 (fun _ h9 => h9) rfl dX3_post_116 ?_
                    refine lv_if_le (tgt := 124) hx hb dX3_post_119 (by decide) (fun _ => ?_) (fun c9 => absurd c9 (by decide))
                    refine lv_iload hx hb dX3_post_124 (lv_at hl 0 rfl) ?_
                    refine lv_iconst (v := (-1)) hx hb dX3_post_126 (by decide) ?_
                    refine lv_icmp_ne (tgt := 151) hx hb dX3_post_127 (by decide) (fun c9 => absurd c9 (by decide)) (fun _ => ?_)
                    refine lv_aload_n hx hb dX3_post_130 rfl (lv_at hl 2 rfl) ?_
                    refine lv_iload_n hx hb dX3_post_131 rfl (lv_at hl 3 rfl) ?_
                    refine lv_iload_n hx hb dX3_post_132 rfl (lv_at hl 4 rfl) ?_
                    refine lv_iload_n hx hb dX3_post_133 rfl (lv_at hl 5 rfl) ?_
                    refine lv_iload hx hb dX3_post_134 (lv_at hl 6 rfl) ?_
                    refine lv_iload hx hb dX3_post_136 (lv_at hl 7 rfl) ?_
                    refine lv_aload_n hx hb dX3_post_138 rfl (lv_at hl 2 rfl) ?_
                    refine va_get (D := G) (ci := 5) (v := .int (nI d)) (C := RX3) (T := TX3) (N := 19) hx hb hts hinX3 hown hK hP 0 rfl rfl 17 (by decide) fl71 (fun _ h9 => h9) rfl dX3_post_139 ?_
                    refine lv_iload hx hb dX3_post_142 (lv_at hl 8 rfl) ?_
                    refine lv_iadd hx hb dX3_post_144 ?_
                    have hfr9 : ∀ q, va_A (W3 k a C n0 M n1 d 0) _ q → A q := va_free hD hS hA [0, 1, 2, 3, 4, 5, 6, 7, 8, 9, 10, 11, 12, 13, 14, 15] rfl
                    refine y_rwV (w := W3 k a C n0 M n1 d 0) (w' := fun (_ : Unit) => W3 k a C n0 (mad2 M n1 q key kd x v ((nI d) + dl) (if x < nI n0 then 119 else 104)) (n1 + 1) d 0) (As := [.int q, .int key, .int kd, .int x, .int v, .int ((nI d) + dl)]) (rest := []) ⟨hx, hb, hml, hown, hts⟩ (c_X3_adds l G k a C n0 M n1 d 0 _ q key kd x v ((nI d) + dl) (yD hND rfl) (by omega) (by first | (rw [c23]; decide) | (rw [c29]; decide))) (cwV 6 hts gX3_post_X3_adds rfl rfl rfl (by decide +kernel) ⟨Nat.le_of_ble_eq_true rfl, Nat.le_of_ble_eq_true rfl⟩) hK hP (va_recv hK hP (ci := 5) (q0 := 0) rfl rfl) hS hfr9 rfl hl.1 rfl (Nat.le_of_ble_eq_true rfl) dX3_post_145 ⟨Nat.le_of_ble_eq_true rfl, Nat.le_of_ble_eq_true rfl⟩ (fun r u9 H1 locs1 hr9 hP9 hz9 hk9 hS9 => ?_)
                    have hP9 : va_P G vwCl (W3 k a C n0 (mad2 M n1 q key kd x v ((nI d) + dl) (if x < nI n0 then 119 else 104)) (n1 + 1) d 0) H1 := hP9
                    have hD9 : va_D A (W3 k a C n0 (mad2 M n1 q key kd x v ((nI d) + dl) (if x < nI n0 then 119 else 104)) (n1 + 1) d 0) := yD hD rfl
                    clear hP hD hS hfr9 hz9 hk9
                    have hP := hP9
                    have hD := hD9
                    have hS := hS9
                    clear hP9 hD9 hS9
                    subst hr9
                    refine lv_goto (tgt := 153) hx hb dX3_post_148 (by decide) ?_
                    have hPf : va_P G vwCl (W3 k a C n0 ((o_post q key kd x v dl n0 M n1 d).2.2.1) ((o_post q key kd x v dl n0 M n1 d).2.2.2) d ((o_post q key kd x v dl n0 M n1 d).1)) H1 := by unfold o_post; first | (rw [if_neg (fun h9 => by first | exact c6 h9.1 | exact c17 h9.2.1 | exact h9.2.2.1.elim c23 c29 | exact c40 h9.2.2.2.1 | exact c52 h9.2.2.2.2.1 | exact c63 h9.2.2.2.2.2)]; exact hP) | (rw [if_pos (show okp q key kd x v dl from ⟨c6, c17, by first | exact Or.inl c23 | exact Or.inr c29, c40, c52, c63⟩)]; first | (rw [if_neg c95]; exact hP) | (rw [if_pos c95]; first | (rw [if_pos c104]; exact hP) | (rw [if_neg c104]; exact hP)))
                    exact W.iret (v := (nI n1)) hx hb hr (fun τ hτ hW => ⟨⟨_, (), rfl, (by unfold o_post; first | (rw [if_neg (fun h9 => by first | exact c6 h9.1 | exact c17 h9.2.1 | exact h9.2.2.1.elim c23 c29 | exact c40 h9.2.2.2.1 | exact c52 h9.2.2.2.2.1 | exact c63 h9.2.2.2.2.2)]; done) | (rw [if_pos (show okp q key kd x v dl from ⟨c6, c17, by first | exact Or.inl c23 | exact Or.inr c29, c40, c52, c63⟩)]; first | (rw [if_neg c95]; done) | (rw [if_pos c95]; first | (rw [if_pos c104]; done) | (rw [if_neg c104]; done)))), yPt hPf hτ⟩, hS.F hτ⟩) hS.2.2 dX3_post_153
                  · replace c104 : n1 = 80 := (nI_eq (a := n1) (b := 80) (by omega) (by omega)).mp c104
                    refine lv_iconst (v := 2) hx hb dX3_post_107 (by decide) ?_
                    refine lv_goto (tgt := 112) hx hb dX3_post_108 (by decide) ?_
                    refine va_put (D := G) (ci := 5) (v := .int 2) (ty := .int) (C := RX3) (T := TX3) (N := 19) hx hb hts hinX3 tyX3 tyX3_ok nmX3 hown hK hP hD hS 0 rfl rfl 18 (by decide) fl57 (fun _ h9 => h9) rfl (by decide +kernel) rfl rfl (Nat.le_of_ble_eq_true rfl) dX3_post_112 (fun H locs hP hD hS => ?_)
                    have hP : va_P G vwCl (W3 k a C n0 M n1 d 2) H := hP
                    have hD : va_D A (W3 k a C n0 M n1 d 2) := hD
                    refine lv_aload_n hx hb dX3_post_115 rfl (lv_at hl 2 rfl) ?_
                    refine va_get (D := G) (ci := 5) (v := .int 2) (C := RX3) (T := TX3) (N := 19) hx hb hts hinX3 hown hK hP 0 rfl rfl 18 (by decide) fl57 (fun _ h9 => h9) rfl dX3_post_116 ?_
                    refine lv_if_le (tgt := 124) hx hb dX3_post_119 (by decide) (fun c9 => absurd c9 (by decide)) (fun _ => ?_)
                    refine lv_iconst (v := 0) hx hb dX3_post_122 (by decide) ?_
                    have hPf : va_P G vwCl (W3 k a C n0 ((o_post q key kd x v dl n0 M n1 d).2.2.1) ((o_post q key kd x v dl n0 M n1 d).2.2.2) d ((o_post q key kd x v dl n0 M n1 d).1)) H := by unfold o_post; first | (rw [if_neg (fun h9 => by first | exact c6 h9.1 | exact c17 h9.2.1 | exact h9.2.2.1.elim c23 c29 | exact c40 h9.2.2.2.1 | exact c52 h9.2.2.2.2.1 | exact c63 h9.2.2.2.2.2)]; exact hP) | (rw [if_pos (show okp q key kd x v dl from ⟨c6, c17, by first | exact Or.inl c23 | exact Or.inr c29, c40, c52, c63⟩)]; first | (rw [if_neg c95]; exact hP) | (rw [if_pos c95]; first | (rw [if_pos c104]; exact hP) | (rw [if_neg c104]; exact hP)))
                    exact W.iret (v := 0) hx hb hr (fun τ hτ hW => ⟨⟨_, (), rfl, (by unfold o_post; first | (rw [if_neg (fun h9 => by first | exact c6 h9.1 | exact c17 h9.2.1 | exact h9.2.2.1.elim c23 c29 | exact c40 h9.2.2.2.1 | exact c52 h9.2.2.2.2.1 | exact c63 h9.2.2.2.2.2)]; done) | (rw [if_pos (show okp q key kd x v dl from ⟨c6, c17, by first | exact Or.inl c23 | exact Or.inr c29, c40, c52, c63⟩)]; first | (rw [if_neg c95]; done) | (rw [if_pos c95]; first | (rw [if_pos c104]; done) | (rw [if_neg c104]; done)))), yPt hPf hτ⟩, hS.F hτ⟩) hS.2.2 dX3_post_123

set_option maxHeartbeats 4000000 in
set_option maxRecDepth 100000 in
theorem c_X3_withKey (l : Launch) (G : va_G) (k : Nat → ClassId) (a : Nat → Nat) (C : Nat → Nat → Int32) (n0 : Nat) (M : Nat → Nat → Int32) (n1 : Nat) (d : Nat) (th : Int32) (sz : Nat) (key : Int32) (hND : va_D (fun _ => True) (W3 k a C n0 M n1 d th)) (hn1 : n1 ≤ 80) : Met l yX3_withKey wsX3_withKey ({ frames := 1, cells := 0, slots := 0, locals := 22 }) (va_Pc [.ref (a 0), .int key] (yBs G (yT k) (W3 k a C n0 M n1 d th) sz)) (va_Qi (fun (r : Int32) (_ : Unit) => r = (o_withKey key M n1).2) (fun _ τ => va_P G vwCl (W3 k a C n0 M n1 d ((o_withKey key M n1).1)) τ.heap) (va_A (W3 k a C n0 M n1 d th) sz)) 0 0 (va_A (W3 k a C n0 M n1 d th) sz) := by
  refine Met.ofW (cc := cX3_withKey) (maxL := 3) (ret := (some .int)) (by decide) rfl ?_
  intro p e s m args below meth c_ s₁ B hml hv
  obtain ⟨rfl, hsz, hP, hK⟩ := hv
  have hx := B.exec
  have hb := B.bytes
  have hr := B.returns
  have hts := atoms_spec (ws := wsX3_withKey) B.pre
  have hown : s.vm.findClass RX3 = some m.cls := findClass_of_methodNamed B.named
  have hlocks := B.notSynchronized
  have hsz0 : (8 : Nat) < 2 ^ 31 := by decide
  have hsz1 : (80 : Nat) < 2 ^ 31 := by decide
  subst hsz
  have hD := hND.self (sz := s.heap.size)
  generalize hAe : va_A (W3 k a C n0 M n1 d th) s.heap.size = A at hD ⊢
  have hA : ∀ q : Nat, s.heap.size ≤ q → A q := fun q h => by rw [← hAe]; exact Or.inr h
  have hS : va_S A s.heap s.heap [] := va_S.rf
  have hinX3 : ∀ w ∈ u_ws RX3 TX3 19, w ∈ wsX3_withKey := by decide +kernel
  have fl57 := hts (.fieldLink RX3 57 "DunningDeskModel" "thrown" "I") (by decide +kernel)
  have hl := lv_entry [.ref (a 0), .int key] (n := 3) (Nat.le_of_ble_eq_true rfl)
  rw [lg_entry_eq]
  generalize (lg_sl [.ref (a 0), .int key] ++ List.replicate (3 - (lg_sl [.ref (a 0), .int key]).length) Slot.unset).toArray = ls at hl ⊢
  have hl : lv_has ls 3 [(0, .ref (a 0)), (1, .int key)] := hl
  refine lv_aload_n hx hb dX3_withKey_0 rfl (lv_at hl 0 rfl) ?_
  refine lv_iload_n hx hb dX3_withKey_1 rfl (lv_at hl 1 rfl) ?_
  refine y_roV (As := [.int key]) (rest := []) ⟨hx, hb, hml, hown, hts⟩ (c_X3_find l G k a C n0 M n1 d th key (by omega)) (cwV 1 hts gX3_withKey_X3_find rfl rfl rfl (by decide +kernel) ⟨Nat.le_of_ble_eq_true rfl, Nat.le_of_ble_eq_true rfl⟩) hK hP (va_recv hK hP (ci := 5) (q0 := 0) rfl rfl) rfl hl.1 rfl (Nat.le_of_ble_eq_true rfl) dX3_withKey_2 ⟨Nat.le_of_ble_eq_true rfl, Nat.le_of_ble_eq_true rfl⟩ (fun r hr9 => ?_)
  subst hr9
  refine lv_istore_n (lv' := [(2, .int (oI (fnd (M 1) key n1 0))), (0, .ref (a 0)), (1, .int key)]) hx hb dX3_withKey_5 rfl hl (by decide) rfl (fun ls hl => ?_)
  refine lv_aload_n hx hb dX3_withKey_6 rfl (lv_at hl 1 rfl) ?_
  refine lv_iload_n hx hb dX3_withKey_7 rfl (lv_at hl 0 rfl) ?_
  refine lv_iconst (v := (-1)) hx hb dX3_withKey_8 (by decide) ?_
  refine lv_icmp_ne (tgt := 16) hx hb dX3_withKey_9 (by decide) (fun c9 => ?_) (fun c9 => ?_)
  · replace c9 : ¬ fnd (M 1) key n1 0 = none := fun h9 => c9 (by rw [h9]; rfl)
    refine lv_iconst (v := 0) hx hb dX3_withKey_16 (by decide) ?_
    refine va_put (D := G) (ci := 5) (v := .int 0) (ty := .int) (C := RX3) (T := TX3) (N := 19) hx hb hts hinX3 tyX3 tyX3_ok nmX3 hown hK hP hD hS 0 rfl rfl 18 (by decide) fl57 (fun _ h9 => h9) rfl (by decide +kernel) rfl rfl (Nat.le_of_ble_eq_true rfl) dX3_withKey_17 (fun H locs hP hD hS => ?_)
    have hP : va_P G vwCl (W3 k a C n0 M n1 d 0) H := hP
    have hD : va_D A (W3 k a C n0 M n1 d 0) := hD
    refine lv_aload_n hx hb dX3_withKey_20 rfl (lv_at hl 1 rfl) ?_
    refine va_get (D := G) (ci := 5) (v := .int 0) (C := RX3) (T := TX3) (N := 19) hx hb hts hinX3 hown hK hP 0 rfl rfl 18 (by decide) fl57 (fun _ h9 => h9) rfl dX3_withKey_21 ?_
    refine lv_if_le (tgt := 31) hx hb dX3_withKey_24 (by decide) (fun _ => ?_) (fun c9 => absurd c9 (by decide))
    refine lv_iload_n hx hb dX3_withKey_31 rfl (lv_at hl 0 rfl) ?_
    have hPf : va_P G vwCl (W3 k a C n0 M n1 d ((o_withKey key M n1).1)) H := by unfold o_withKey; (all_goals try first | rw [if_pos c9] | rw [if_neg c9]); exact hP
    exact W.iret (v := (oI (fnd (M 1) key n1 0))) hx hb hr (fun τ hτ hW => ⟨⟨_, (), rfl, (by unfold o_withKey; (all_goals try first | rw [if_pos c9] | rw [if_neg c9]); (all_goals try rfl)), yPt hPf hτ⟩, hS.F hτ⟩) hS.2.2 dX3_withKey_32
  · replace c9 : fnd (M 1) key n1 0 = none := oI_none (fun z h => by have := fnd_lt h; omega) c9
    rw [c9] at hl
    refine lv_iconst (v := 1) hx hb dX3_withKey_12 (by decide) ?_
    refine lv_goto (tgt := 17) hx hb dX3_withKey_13 (by decide) ?_
    refine va_put (D := G) (ci := 5) (v := .int 1) (ty := .int) (C := RX3) (T := TX3) (N := 19) hx hb hts hinX3 tyX3 tyX3_ok nmX3 hown hK hP hD hS 0 rfl rfl 18 (by decide) fl57 (fun _ h9 => h9) rfl (by decide +kernel) rfl rfl (Nat.le_of_ble_eq_true rfl) dX3_withKey_17 (fun H locs hP hD hS => ?_)
    have hP : va_P G vwCl (W3 k a C n0 M n1 d 1) H := hP
    have hD : va_D A (W3 k a C n0 M n1 d 1) := hD
    refine lv_aload_n hx hb dX3_withKey_20 rfl (lv_at hl 1 rfl) ?_
    refine va_get (D := G) (ci := 5) (v := .int 1) (C := RX3) (T := TX3) (N := 19) hx hb hts hinX3 hown hK hP 0 rfl rfl 18 (by decide) fl57 (fun _ h9 => h9) rfl dX3_withKey_21 ?_
    refine lv_if_le (tgt := 31) hx hb dX3_withKey_24 (by decide) (fun c9 => absurd c9 (by decide)) (fun _ => ?_)
    refine lv_iconst (v := 0) hx hb dX3_withKey_27 (by decide) ?_
    refine lv_goto (tgt := 32) hx hb dX3_withKey_28 (by decide) ?_
    have hPf : va_P G vwCl (W3 k a C n0 M n1 d ((o_withKey key M n1).1)) H := by unfold o_withKey; (all_goals try first | rw [if_pos c9] | rw [if_neg c9]); exact hP
    exact W.iret (v := 0) hx hb hr (fun τ hτ hW => ⟨⟨_, (), rfl, (by unfold o_withKey; (all_goals try first | rw [if_pos c9] | rw [if_neg c9]); (all_goals try rfl)), yPt hPf hτ⟩, hS.F hτ⟩) hS.2.2 dX3_withKey_32

set_option maxHeartbeats 4000000 in
set_option maxRecDepth 100000 in
theorem c_X3_state (l : Launch) (G : va_G) (k : Nat → ClassId) (a : Nat → Nat) (C : Nat → Nat → Int32) (n0 : Nat) (M : Nat → Nat → Int32) (n1 : Nat) (d : Nat) (th : Int32) (sz : Nat) (x : Int32) (hND : va_D (fun _ => True) (W3 k a C n0 M n1 d th)) (hn1 : n1 ≤ 80) (hch : ∀ z, z < n1 → narrow .char (.int (M 5 z)) = .int (M 5 z)) : Met l yX3_state wsX3_state ({ frames := 2, cells := 0, slots := 0, locals := 43 }) (va_Pc [.ref (a 0), .int x] (yBs G (yT k) (W3 k a C n0 M n1 d th) sz)) (va_Qi (fun (r : Int32) (_ : Unit) => r = (o_row 5 32 x M n1).2) (fun _ τ => va_P G vwCl (W3 k a C n0 M n1 d ((o_row 5 32 x M n1).1)) τ.heap) (va_A (W3 k a C n0 M n1 d th) sz)) 0 0 (va_A (W3 k a C n0 M n1 d th) sz) := by
  refine Met.ofW (cc := cX3_state) (maxL := 2) (ret := (some .char)) (by decide) rfl ?_
  intro p e s m args below meth c_ s₁ B hml hv
  obtain ⟨rfl, hsz, hP, hK⟩ := hv
  have hx := B.exec
  have hb := B.bytes
  have hr := B.returns
  have hts := atoms_spec (ws := wsX3_state) B.pre
  have hown : s.vm.findClass RX3 = some m.cls := findClass_of_methodNamed B.named
  have hlocks := B.notSynchronized
  have hsz0 : (8 : Nat) < 2 ^ 31 := by decide
  have hsz1 : (80 : Nat) < 2 ^ 31 := by decide
  subst hsz
  have hD := hND.self (sz := s.heap.size)
  generalize hAe : va_A (W3 k a C n0 M n1 d th) s.heap.size = A at hD ⊢
  have hA : ∀ q : Nat, s.heap.size ≤ q → A q := fun q h => by rw [← hAe]; exact Or.inr h
  have hS : va_S A s.heap s.heap [] := va_S.rf
  have hinX3 : ∀ w ∈ u_ws RX3 TX3 19, w ∈ wsX3_state := by decide +kernel
  have fl48 := hts (.fieldLink RX3 48 "DunningDeskModel" "states" "[C") (by decide +kernel)
  have hl := lv_entry [.ref (a 0), .int x] (n := 2) (Nat.le_of_ble_eq_true rfl)
  rw [lg_entry_eq]
  generalize (lg_sl [.ref (a 0), .int x] ++ List.replicate (2 - (lg_sl [.ref (a 0), .int x]).length) Slot.unset).toArray = ls at hl ⊢
  have hl : lv_has ls 2 [(0, .ref (a 0)), (1, .int x)] := hl
  refine lv_aload_n hx hb dX3_state_0 rfl (lv_at hl 0 rfl) ?_
  refine lv_iload_n hx hb dX3_state_1 rfl (lv_at hl 1 rfl) ?_
  have hfr9 : ∀ q, va_A (W3 k a C n0 M n1 d th) _ q → A q := va_free hD hS hA [0, 1, 2, 3, 4, 5, 6, 7, 8, 9, 10, 11, 12, 13, 14, 15] rfl
  refine y_rwV (w := W3 k a C n0 M n1 d th) (w' := fun (_ : Unit) => W3 k a C n0 M n1 d (if inR x n1 then 0 else 1)) (As := [.int x]) (rest := []) ⟨hx, hb, hml, hown, hts⟩ (c_X3_noMessage l G k a C n0 M n1 d th _ x (yD hND rfl) (by omega)) (cwV 1 hts gX3_state_X3_noMessage rfl rfl rfl (by decide +kernel) ⟨Nat.le_of_ble_eq_true rfl, Nat.le_of_ble_eq_true rfl⟩) hK hP (va_recv hK hP (ci := 5) (q0 := 0) rfl rfl) hS hfr9 rfl hl.1 rfl (Nat.le_of_ble_eq_true rfl) dX3_state_2 ⟨Nat.le_of_ble_eq_true rfl, Nat.le_of_ble_eq_true rfl⟩ (fun r u9 H1 locs1 hr9 hP9 hz9 hk9 hS9 => ?_)
  have hP9 : va_P G vwCl (W3 k a C n0 M n1 d (if inR x n1 then 0 else 1)) H1 := hP9
  have hD9 : va_D A (W3 k a C n0 M n1 d (if inR x n1 then 0 else 1)) := yD hD rfl
  clear hP hD hS hfr9 hz9 hk9
  have hP := hP9
  have hD := hD9
  have hS := hS9
  clear hP9 hD9 hS9
  subst hr9
  refine lv_if_eq (tgt := 13) hx hb dX3_state_5 (by decide) (fun c5 => ?_) (fun c5 => ?_)
  · replace c5 : inR x n1 := Classical.not_not.mp (b2_of0 c5)
    rw [if_pos c5] at hP hD
    obtain ⟨j, hj, rfl⟩ := inR_of (by omega) c5
    refine lv_aload_n hx hb dX3_state_13 rfl (lv_at hl 0 rfl) ?_
    refine va_get (D := G) (ci := 5) (v := .ref (a 13)) (C := RX3) (T := TX3) (N := 19) hx hb hts hinX3 hown hK hP 0 rfl rfl 13 (by decide) fl48 (fun _ h9 => h9) rfl dX3_state_14 ?_
    refine lv_iload_n hx hb dX3_state_17 rfl (lv_at hl 1 rfl) ?_
    refine y_cald hx hb hK hP 13 2 rfl rfl (j := j) (by omega) hsz1 dX3_state_18 ?_
    have hPf : va_P G vwCl (W3 k a C n0 M n1 d ((o_row 5 32 (nI j) M n1).1)) H1 := by unfold o_row; (all_goals try first | rw [if_pos c5] | rw [if_neg c5]); (all_goals try simp only [clI (show j < 80 by omega)]); (all_goals try first | rw [if_pos c5] | rw [if_neg c5]); exact hP
    exact W.zret (v := (M 5 j)) hx hb hr (by first | exact hch j hj | decide) (fun τ hτ hW => ⟨⟨_, (), rfl, (by unfold o_row; (all_goals try first | rw [if_pos c5] | rw [if_neg c5]); (all_goals try simp only [clI (show j < 80 by omega)]); (all_goals try first | rw [if_pos c5] | rw [if_neg c5]); (all_goals try rfl)), yPt hPf hτ⟩, hS.F hτ⟩) hS.2.2 dX3_state_19
  · replace c5 : ¬ inR x n1 := b2_of1 c5
    rw [if_neg c5] at hP hD
    refine lv_bipush (v := 32) hx hb dX3_state_8 (by decide) ?_
    refine lv_goto (tgt := 19) hx hb dX3_state_10 (by decide) ?_
    have hPf : va_P G vwCl (W3 k a C n0 M n1 d ((o_row 5 32 x M n1).1)) H1 := by unfold o_row; (all_goals try first | rw [if_pos c5] | rw [if_neg c5]); exact hP
    exact W.zret (v := 32) hx hb hr (by first | exact hch j hj | decide) (fun τ hτ hW => ⟨⟨_, (), rfl, (by unfold o_row; (all_goals try first | rw [if_pos c5] | rw [if_neg c5]); (all_goals try rfl)), yPt hPf hτ⟩, hS.F hτ⟩) hS.2.2 dX3_state_19

set_option maxHeartbeats 4000000 in
set_option maxRecDepth 100000 in
theorem c_X3_kind (l : Launch) (G : va_G) (k : Nat → ClassId) (a : Nat → Nat) (C : Nat → Nat → Int32) (n0 : Nat) (M : Nat → Nat → Int32) (n1 : Nat) (d : Nat) (th : Int32) (sz : Nat) (x : Int32) (hND : va_D (fun _ => True) (W3 k a C n0 M n1 d th)) (hn1 : n1 ≤ 80) (hch : ∀ z, z < n1 → narrow .char (.int (M 2 z)) = .int (M 2 z)) : Met l yX3_kind wsX3_kind ({ frames := 2, cells := 0, slots := 0, locals := 43 }) (va_Pc [.ref (a 0), .int x] (yBs G (yT k) (W3 k a C n0 M n1 d th) sz)) (va_Qi (fun (r : Int32) (_ : Unit) => r = (o_row 2 32 x M n1).2) (fun _ τ => va_P G vwCl (W3 k a C n0 M n1 d ((o_row 2 32 x M n1).1)) τ.heap) (va_A (W3 k a C n0 M n1 d th) sz)) 0 0 (va_A (W3 k a C n0 M n1 d th) sz) := by
  refine Met.ofW (cc := cX3_kind) (maxL := 2) (ret := (some .char)) (by decide) rfl ?_
  intro p e s m args below meth c_ s₁ B hml hv
  obtain ⟨rfl, hsz, hP, hK⟩ := hv
  have hx := B.exec
  have hb := B.bytes
  have hr := B.returns
  have hts := atoms_spec (ws := wsX3_kind) B.pre
  have hown : s.vm.findClass RX3 = some m.cls := findClass_of_methodNamed B.named
  have hlocks := B.notSynchronized
  have hsz0 : (8 : Nat) < 2 ^ 31 := by decide
  have hsz1 : (80 : Nat) < 2 ^ 31 := by decide
  subst hsz
  have hD := hND.self (sz := s.heap.size)
  generalize hAe : va_A (W3 k a C n0 M n1 d th) s.heap.size = A at hD ⊢
  have hA : ∀ q : Nat, s.heap.size ≤ q → A q := fun q h => by rw [← hAe]; exact Or.inr h
  have hS : va_S A s.heap s.heap [] := va_S.rf
  have hinX3 : ∀ w ∈ u_ws RX3 TX3 19, w ∈ wsX3_kind := by decide +kernel
  have fl32 := hts (.fieldLink RX3 32 "DunningDeskModel" "kinds" "[C") (by decide +kernel)
  have hl := lv_entry [.ref (a 0), .int x] (n := 2) (Nat.le_of_ble_eq_true rfl)
  rw [lg_entry_eq]
  generalize (lg_sl [.ref (a 0), .int x] ++ List.replicate (2 - (lg_sl [.ref (a 0), .int x]).length) Slot.unset).toArray = ls at hl ⊢
  have hl : lv_has ls 2 [(0, .ref (a 0)), (1, .int x)] := hl
  refine lv_aload_n hx hb dX3_kind_0 rfl (lv_at hl 0 rfl) ?_
  refine lv_iload_n hx hb dX3_kind_1 rfl (lv_at hl 1 rfl) ?_
  have hfr9 : ∀ q, va_A (W3 k a C n0 M n1 d th) _ q → A q := va_free hD hS hA [0, 1, 2, 3, 4, 5, 6, 7, 8, 9, 10, 11, 12, 13, 14, 15] rfl
  refine y_rwV (w := W3 k a C n0 M n1 d th) (w' := fun (_ : Unit) => W3 k a C n0 M n1 d (if inR x n1 then 0 else 1)) (As := [.int x]) (rest := []) ⟨hx, hb, hml, hown, hts⟩ (c_X3_noMessage l G k a C n0 M n1 d th _ x (yD hND rfl) (by omega)) (cwV 1 hts gX3_kind_X3_noMessage rfl rfl rfl (by decide +kernel) ⟨Nat.le_of_ble_eq_true rfl, Nat.le_of_ble_eq_true rfl⟩) hK hP (va_recv hK hP (ci := 5) (q0 := 0) rfl rfl) hS hfr9 rfl hl.1 rfl (Nat.le_of_ble_eq_true rfl) dX3_kind_2 ⟨Nat.le_of_ble_eq_true rfl, Nat.le_of_ble_eq_true rfl⟩ (fun r u9 H1 locs1 hr9 hP9 hz9 hk9 hS9 => ?_)
  have hP9 : va_P G vwCl (W3 k a C n0 M n1 d (if inR x n1 then 0 else 1)) H1 := hP9
  have hD9 : va_D A (W3 k a C n0 M n1 d (if inR x n1 then 0 else 1)) := yD hD rfl
  clear hP hD hS hfr9 hz9 hk9
  have hP := hP9
  have hD := hD9
  have hS := hS9
  clear hP9 hD9 hS9
  subst hr9
  refine lv_if_eq (tgt := 13) hx hb dX3_kind_5 (by decide) (fun c5 => ?_) (fun c5 => ?_)
  · replace c5 : inR x n1 := Classical.not_not.mp (b2_of0 c5)
    rw [if_pos c5] at hP hD
    obtain ⟨j, hj, rfl⟩ := inR_of (by omega) c5
    refine lv_aload_n hx hb dX3_kind_13 rfl (lv_at hl 0 rfl) ?_
    refine va_get (D := G) (ci := 5) (v := .ref (a 8)) (C := RX3) (T := TX3) (N := 19) hx hb hts hinX3 hown hK hP 0 rfl rfl 8 (by decide) fl32 (fun _ h9 => h9) rfl dX3_kind_14 ?_
    refine lv_iload_n hx hb dX3_kind_17 rfl (lv_at hl 1 rfl) ?_
    refine y_cald hx hb hK hP 8 2 rfl rfl (j := j) (by omega) hsz1 dX3_kind_18 ?_
    have hPf : va_P G vwCl (W3 k a C n0 M n1 d ((o_row 2 32 (nI j) M n1).1)) H1 := by unfold o_row; (all_goals try first | rw [if_pos c5] | rw [if_neg c5]); (all_goals try simp only [clI (show j < 80 by omega)]); (all_goals try first | rw [if_pos c5] | rw [if_neg c5]); exact hP
    exact W.zret (v := (M 2 j)) hx hb hr (by first | exact hch j hj | decide) (fun τ hτ hW => ⟨⟨_, (), rfl, (by unfold o_row; (all_goals try first | rw [if_pos c5] | rw [if_neg c5]); (all_goals try simp only [clI (show j < 80 by omega)]); (all_goals try first | rw [if_pos c5] | rw [if_neg c5]); (all_goals try rfl)), yPt hPf hτ⟩, hS.F hτ⟩) hS.2.2 dX3_kind_19
  · replace c5 : ¬ inR x n1 := b2_of1 c5
    rw [if_neg c5] at hP hD
    refine lv_bipush (v := 32) hx hb dX3_kind_8 (by decide) ?_
    refine lv_goto (tgt := 19) hx hb dX3_kind_10 (by decide) ?_
    have hPf : va_P G vwCl (W3 k a C n0 M n1 d ((o_row 2 32 x M n1).1)) H1 := by unfold o_row; (all_goals try first | rw [if_pos c5] | rw [if_neg c5]); exact hP
    exact W.zret (v := 32) hx hb hr (by first | exact hch j hj | decide) (fun τ hτ hW => ⟨⟨_, (), rfl, (by unfold o_row; (all_goals try first | rw [if_pos c5] | rw [if_neg c5]); (all_goals try rfl)), yPt hPf hτ⟩, hS.F hτ⟩) hS.2.2 dX3_kind_19

set_option maxHeartbeats 4000000 in
set_option maxRecDepth 100000 in
theorem c_X3_tries (l : Launch) (G : va_G) (k : Nat → ClassId) (a : Nat → Nat) (C : Nat → Nat → Int32) (n0 : Nat) (M : Nat → Nat → Int32) (n1 : Nat) (d : Nat) (th : Int32) (sz : Nat) (x : Int32) (hND : va_D (fun _ => True) (W3 k a C n0 M n1 d th)) (hn1 : n1 ≤ 80) : Met l yX3_tries wsX3_tries ({ frames := 2, cells := 0, slots := 0, locals := 43 }) (va_Pc [.ref (a 0), .int x] (yBs G (yT k) (W3 k a C n0 M n1 d th) sz)) (va_Qi (fun (r : Int32) (_ : Unit) => r = (o_row 7 0 x M n1).2) (fun _ τ => va_P G vwCl (W3 k a C n0 M n1 d ((o_row 7 0 x M n1).1)) τ.heap) (va_A (W3 k a C n0 M n1 d th) sz)) 0 0 (va_A (W3 k a C n0 M n1 d th) sz) := by
  refine Met.ofW (cc := cX3_tries) (maxL := 2) (ret := (some .int)) (by decide) rfl ?_
  intro p e s m args below meth c_ s₁ B hml hv
  obtain ⟨rfl, hsz, hP, hK⟩ := hv
  have hx := B.exec
  have hb := B.bytes
  have hr := B.returns
  have hts := atoms_spec (ws := wsX3_tries) B.pre
  have hown : s.vm.findClass RX3 = some m.cls := findClass_of_methodNamed B.named
  have hlocks := B.notSynchronized
  have hsz0 : (8 : Nat) < 2 ^ 31 := by decide
  have hsz1 : (80 : Nat) < 2 ^ 31 := by decide
  subst hsz
  have hD := hND.self (sz := s.heap.size)
  generalize hAe : va_A (W3 k a C n0 M n1 d th) s.heap.size = A at hD ⊢
  have hA : ∀ q : Nat, s.heap.size ≤ q → A q := fun q h => by rw [← hAe]; exact Or.inr h
  have hS : va_S A s.heap s.heap [] := va_S.rf
  have hinX3 : ∀ w ∈ u_ws RX3 TX3 19, w ∈ wsX3_tries := by decide +kernel
  have fl45 := hts (.fieldLink RX3 45 "DunningDeskModel" "tries" "[I") (by decide +kernel)
  have hl := lv_entry [.ref (a 0), .int x] (n := 2) (Nat.le_of_ble_eq_true rfl)
  rw [lg_entry_eq]
  generalize (lg_sl [.ref (a 0), .int x] ++ List.replicate (2 - (lg_sl [.ref (a 0), .int x]).length) Slot.unset).toArray = ls at hl ⊢
  have hl : lv_has ls 2 [(0, .ref (a 0)), (1, .int x)] := hl
  refine lv_aload_n hx hb dX3_tries_0 rfl (lv_at hl 0 rfl) ?_
  refine lv_iload_n hx hb dX3_tries_1 rfl (lv_at hl 1 rfl) ?_
  have hfr9 : ∀ q, va_A (W3 k a C n0 M n1 d th) _ q → A q := va_free hD hS hA [0, 1, 2, 3, 4, 5, 6, 7, 8, 9, 10, 11, 12, 13, 14, 15] rfl
  refine y_rwV (w := W3 k a C n0 M n1 d th) (w' := fun (_ : Unit) => W3 k a C n0 M n1 d (if inR x n1 then 0 else 1)) (As := [.int x]) (rest := []) ⟨hx, hb, hml, hown, hts⟩ (c_X3_noMessage l G k a C n0 M n1 d th _ x (yD hND rfl) (by omega)) (cwV 1 hts gX3_tries_X3_noMessage rfl rfl rfl (by decide +kernel) ⟨Nat.le_of_ble_eq_true rfl, Nat.le_of_ble_eq_true rfl⟩) hK hP (va_recv hK hP (ci := 5) (q0 := 0) rfl rfl) hS hfr9 rfl hl.1 rfl (Nat.le_of_ble_eq_true rfl) dX3_tries_2 ⟨Nat.le_of_ble_eq_true rfl, Nat.le_of_ble_eq_true rfl⟩ (fun r u9 H1 locs1 hr9 hP9 hz9 hk9 hS9 => ?_)
  have hP9 : va_P G vwCl (W3 k a C n0 M n1 d (if inR x n1 then 0 else 1)) H1 := hP9
  have hD9 : va_D A (W3 k a C n0 M n1 d (if inR x n1 then 0 else 1)) := yD hD rfl
  clear hP hD hS hfr9 hz9 hk9
  have hP := hP9
  have hD := hD9
  have hS := hS9
  clear hP9 hD9 hS9
  subst hr9
  refine lv_if_eq (tgt := 12) hx hb dX3_tries_5 (by decide) (fun c5 => ?_) (fun c5 => ?_)
  · replace c5 : inR x n1 := Classical.not_not.mp (b2_of0 c5)
    rw [if_pos c5] at hP hD
    obtain ⟨j, hj, rfl⟩ := inR_of (by omega) c5
    refine lv_aload_n hx hb dX3_tries_12 rfl (lv_at hl 0 rfl) ?_
    refine va_get (D := G) (ci := 5) (v := .ref (a 12)) (C := RX3) (T := TX3) (N := 19) hx hb hts hinX3 hown hK hP 0 rfl rfl 12 (by decide) fl45 (fun _ h9 => h9) rfl dX3_tries_13 ?_
    refine lv_iload_n hx hb dX3_tries_16 rfl (lv_at hl 1 rfl) ?_
    refine y_iald hx hb hK hP 12 0 rfl rfl (j := j) (by omega) hsz1 dX3_tries_17 ?_
    have hPf : va_P G vwCl (W3 k a C n0 M n1 d ((o_row 7 0 (nI j) M n1).1)) H1 := by unfold o_row; (all_goals try first | rw [if_pos c5] | rw [if_neg c5]); (all_goals try simp only [clI (show j < 80 by omega)]); (all_goals try first | rw [if_pos c5] | rw [if_neg c5]); exact hP
    exact W.iret (v := (M 7 j)) hx hb hr (fun τ hτ hW => ⟨⟨_, (), rfl, (by unfold o_row; (all_goals try first | rw [if_pos c5] | rw [if_neg c5]); (all_goals try simp only [clI (show j < 80 by omega)]); (all_goals try first | rw [if_pos c5] | rw [if_neg c5]); (all_goals try rfl)), yPt hPf hτ⟩, hS.F hτ⟩) hS.2.2 dX3_tries_18
  · replace c5 : ¬ inR x n1 := b2_of1 c5
    rw [if_neg c5] at hP hD
    refine lv_iconst (v := 0) hx hb dX3_tries_8 (by decide) ?_
    refine lv_goto (tgt := 18) hx hb dX3_tries_9 (by decide) ?_
    have hPf : va_P G vwCl (W3 k a C n0 M n1 d ((o_row 7 0 x M n1).1)) H1 := by unfold o_row; (all_goals try first | rw [if_pos c5] | rw [if_neg c5]); exact hP
    exact W.iret (v := 0) hx hb hr (fun τ hτ hW => ⟨⟨_, (), rfl, (by unfold o_row; (all_goals try first | rw [if_pos c5] | rw [if_neg c5]); (all_goals try rfl)), yPt hPf hτ⟩, hS.F hτ⟩) hS.2.2 dX3_tries_18

set_option maxHeartbeats 4000000 in
set_option maxRecDepth 100000 in
theorem c_X3_readyAt (l : Launch) (G : va_G) (k : Nat → ClassId) (a : Nat → Nat) (C : Nat → Nat → Int32) (n0 : Nat) (M : Nat → Nat → Int32) (n1 : Nat) (d : Nat) (th : Int32) (sz : Nat) (x : Int32) (hND : va_D (fun _ => True) (W3 k a C n0 M n1 d th)) (hn1 : n1 ≤ 80) : Met l yX3_readyAt wsX3_readyAt ({ frames := 2, cells := 0, slots := 0, locals := 43 }) (va_Pc [.ref (a 0), .int x] (yBs G (yT k) (W3 k a C n0 M n1 d th) sz)) (va_Qi (fun (r : Int32) (_ : Unit) => r = (o_rowIf 6 119 x M n1).2) (fun _ τ => va_P G vwCl (W3 k a C n0 M n1 d ((o_rowIf 6 119 x M n1).1)) τ.heap) (va_A (W3 k a C n0 M n1 d th) sz)) 0 0 (va_A (W3 k a C n0 M n1 d th) sz) := by
  refine Met.ofW (cc := cX3_readyAt) (maxL := 2) (ret := (some .int)) (by decide) rfl ?_
  intro p e s m args below meth c_ s₁ B hml hv
  obtain ⟨rfl, hsz, hP, hK⟩ := hv
  have hx := B.exec
  have hb := B.bytes
  have hr := B.returns
  have hts := atoms_spec (ws := wsX3_readyAt) B.pre
  have hown : s.vm.findClass RX3 = some m.cls := findClass_of_methodNamed B.named
  have hlocks := B.notSynchronized
  have hsz0 : (8 : Nat) < 2 ^ 31 := by decide
  have hsz1 : (80 : Nat) < 2 ^ 31 := by decide
  subst hsz
  have hD := hND.self (sz := s.heap.size)
  generalize hAe : va_A (W3 k a C n0 M n1 d th) s.heap.size = A at hD ⊢
  have hA : ∀ q : Nat, s.heap.size ≤ q → A q := fun q h => by rw [← hAe]; exact Or.inr h
  have hS : va_S A s.heap s.heap [] := va_S.rf
  have hinX3 : ∀ w ∈ u_ws RX3 TX3 19, w ∈ wsX3_readyAt := by decide +kernel
  have fl48 := hts (.fieldLink RX3 48 "DunningDeskModel" "states" "[C") (by decide +kernel)
  have fl57 := hts (.fieldLink RX3 57 "DunningDeskModel" "thrown" "I") (by decide +kernel)
  have fl42 := hts (.fieldLink RX3 42 "DunningDeskModel" "readyOn" "[I") (by decide +kernel)
  have hl := lv_entry [.ref (a 0), .int x] (n := 2) (Nat.le_of_ble_eq_true rfl)
  rw [lg_entry_eq]
  generalize (lg_sl [.ref (a 0), .int x] ++ List.replicate (2 - (lg_sl [.ref (a 0), .int x]).length) Slot.unset).toArray = ls at hl ⊢
  have hl : lv_has ls 2 [(0, .ref (a 0)), (1, .int x)] := hl
  refine lv_aload_n hx hb dX3_readyAt_0 rfl (lv_at hl 0 rfl) ?_
  refine lv_iload_n hx hb dX3_readyAt_1 rfl (lv_at hl 1 rfl) ?_
  have hfr9 : ∀ q, va_A (W3 k a C n0 M n1 d th) _ q → A q := va_free hD hS hA [0, 1, 2, 3, 4, 5, 6, 7, 8, 9, 10, 11, 12, 13, 14, 15] rfl
  refine y_rwV (w := W3 k a C n0 M n1 d th) (w' := fun (_ : Unit) => W3 k a C n0 M n1 d (if inR x n1 then 0 else 1)) (As := [.int x]) (rest := []) ⟨hx, hb, hml, hown, hts⟩ (c_X3_noMessage l G k a C n0 M n1 d th _ x (yD hND rfl) (by omega)) (cwV 1 hts gX3_readyAt_X3_noMessage rfl rfl rfl (by decide +kernel) ⟨Nat.le_of_ble_eq_true rfl, Nat.le_of_ble_eq_true rfl⟩) hK hP (va_recv hK hP (ci := 5) (q0 := 0) rfl rfl) hS hfr9 rfl hl.1 rfl (Nat.le_of_ble_eq_true rfl) dX3_readyAt_2 ⟨Nat.le_of_ble_eq_true rfl, Nat.le_of_ble_eq_true rfl⟩ (fun r u9 H1 locs1 hr9 hP9 hz9 hk9 hS9 => ?_)
  have hP9 : va_P G vwCl (W3 k a C n0 M n1 d (if inR x n1 then 0 else 1)) H1 := hP9
  have hD9 : va_D A (W3 k a C n0 M n1 d (if inR x n1 then 0 else 1)) := yD hD rfl
  clear hP hD hS hfr9 hz9 hk9
  have hP := hP9
  have hD := hD9
  have hS := hS9
  clear hP9 hD9 hS9
  subst hr9
  refine lv_if_eq (tgt := 10) hx hb dX3_readyAt_5 (by decide) (fun c5 => ?_) (fun c5 => ?_)
  · replace c5 : inR x n1 := Classical.not_not.mp (b2_of0 c5)
    rw [if_pos c5] at hP hD
    obtain ⟨j, hj, rfl⟩ := inR_of (by omega) c5
    refine lv_aload_n hx hb dX3_readyAt_10 rfl (lv_at hl 0 rfl) ?_
    refine lv_aload_n hx hb dX3_readyAt_11 rfl (lv_at hl 0 rfl) ?_
    refine va_get (D := G) (ci := 5) (v := .ref (a 13)) (C := RX3) (T := TX3) (N := 19) hx hb hts hinX3 hown hK hP 0 rfl rfl 13 (by decide) fl48 (fun _ h9 => h9) rfl dX3_readyAt_12 ?_
    refine lv_iload_n hx hb dX3_readyAt_15 rfl (lv_at hl 1 rfl) ?_
    refine y_cald hx hb hK hP 13 2 rfl rfl (j := j) (by omega) hsz1 dX3_readyAt_16 ?_
    refine lv_bipush (v := 119) hx hb dX3_readyAt_17 (by decide) ?_
    refine lv_icmp_ne (tgt := 26) hx hb dX3_readyAt_19 (by decide) (fun c19 => ?_) (fun c19 => ?_)
    · skip
      refine lv_iconst (v := 2) hx hb dX3_readyAt_26 (by decide) ?_
      refine va_put (D := G) (ci := 5) (v := .int 2) (ty := .int) (C := RX3) (T := TX3) (N := 19) hx hb hts hinX3 tyX3 tyX3_ok nmX3 hown hK hP hD hS 0 rfl rfl 18 (by decide) fl57 (fun _ h9 => h9) rfl (by decide +kernel) rfl rfl (Nat.le_of_ble_eq_true rfl) dX3_readyAt_27 (fun H locs hP hD hS => ?_)
      have hP : va_P G vwCl (W3 k a C n0 M n1 d 2) H := hP
      have hD : va_D A (W3 k a C n0 M n1 d 2) := hD
      refine lv_aload_n hx hb dX3_readyAt_30 rfl (lv_at hl 0 rfl) ?_
      refine va_get (D := G) (ci := 5) (v := .int 2) (C := RX3) (T := TX3) (N := 19) hx hb hts hinX3 hown hK hP 0 rfl rfl 18 (by decide) fl57 (fun _ h9 => h9) rfl dX3_readyAt_31 ?_
      refine lv_if_le (tgt := 41) hx hb dX3_readyAt_34 (by decide) (fun c9 => absurd c9 (by decide)) (fun _ => ?_)
      refine lv_iconst (v := 0) hx hb dX3_readyAt_37 (by decide) ?_
      refine lv_goto (tgt := 47) hx hb dX3_readyAt_38 (by decide) ?_
      have hPf : va_P G vwCl (W3 k a C n0 M n1 d ((o_rowIf 6 119 (nI j) M n1).1)) H := by unfold o_rowIf; (all_goals try first | rw [if_pos c5] | rw [if_neg c5]); (all_goals try first | rw [if_pos c19] | rw [if_neg c19]); (all_goals try simp only [clI (show j < 80 by omega)]); (all_goals try first | rw [if_pos c5] | rw [if_neg c5]); (all_goals try first | rw [if_pos c19] | rw [if_neg c19]); exact hP
      exact W.iret (v := 0) hx hb hr (fun τ hτ hW => ⟨⟨_, (), rfl, (by unfold o_rowIf; (all_goals try first | rw [if_pos c5] | rw [if_neg c5]); (all_goals try first | rw [if_pos c19] | rw [if_neg c19]); (all_goals try simp only [clI (show j < 80 by omega)]); (all_goals try first | rw [if_pos c5] | rw [if_neg c5]); (all_goals try first | rw [if_pos c19] | rw [if_neg c19]); (all_goals try rfl)), yPt hPf hτ⟩, hS.F hτ⟩) hS.2.2 dX3_readyAt_47
    · skip
      refine lv_iconst (v := 0) hx hb dX3_readyAt_22 (by decide) ?_
      refine lv_goto (tgt := 27) hx hb dX3_readyAt_23 (by decide) ?_
      refine va_put (D := G) (ci := 5) (v := .int 0) (ty := .int) (C := RX3) (T := TX3) (N := 19) hx hb hts hinX3 tyX3 tyX3_ok nmX3 hown hK hP hD hS 0 rfl rfl 18 (by decide) fl57 (fun _ h9 => h9) rfl (by decide +kernel) rfl rfl (Nat.le_of_ble_eq_true rfl) dX3_readyAt_27 (fun H locs hP hD hS => ?_)
      have hP : va_P G vwCl (W3 k a C n0 M n1 d 0) H := hP
      have hD : va_D A (W3 k a C n0 M n1 d 0) := hD
      refine lv_aload_n hx hb dX3_readyAt_30 rfl (lv_at hl 0 rfl) ?_
      refine va_get (D := G) (ci := 5) (v := .int 0) (C := RX3) (T := TX3) (N := 19) hx hb hts hinX3 hown hK hP 0 rfl rfl 18 (by decide) fl57 (fun _ h9 => h9) rfl dX3_readyAt_31 ?_
      refine lv_if_le (tgt := 41) hx hb dX3_readyAt_34 (by decide) (fun _ => ?_) (fun c9 => absurd c9 (by decide))
      refine lv_aload_n hx hb dX3_readyAt_41 rfl (lv_at hl 0 rfl) ?_
      refine va_get (D := G) (ci := 5) (v := .ref (a 11)) (C := RX3) (T := TX3) (N := 19) hx hb hts hinX3 hown hK hP 0 rfl rfl 11 (by decide) fl42 (fun _ h9 => h9) rfl dX3_readyAt_42 ?_
      refine lv_iload_n hx hb dX3_readyAt_45 rfl (lv_at hl 1 rfl) ?_
      refine y_iald hx hb hK hP 11 0 rfl rfl (j := j) (by omega) hsz1 dX3_readyAt_46 ?_
      have hPf : va_P G vwCl (W3 k a C n0 M n1 d ((o_rowIf 6 119 (nI j) M n1).1)) H := by unfold o_rowIf; (all_goals try first | rw [if_pos c5] | rw [if_neg c5]); (all_goals try first | rw [if_pos c19] | rw [if_neg c19]); (all_goals try simp only [clI (show j < 80 by omega)]); (all_goals try first | rw [if_pos c5] | rw [if_neg c5]); (all_goals try first | rw [if_pos c19] | rw [if_neg c19]); exact hP
      exact W.iret (v := (M 6 j)) hx hb hr (fun τ hτ hW => ⟨⟨_, (), rfl, (by unfold o_rowIf; (all_goals try first | rw [if_pos c5] | rw [if_neg c5]); (all_goals try first | rw [if_pos c19] | rw [if_neg c19]); (all_goals try simp only [clI (show j < 80 by omega)]); (all_goals try first | rw [if_pos c5] | rw [if_neg c5]); (all_goals try first | rw [if_pos c19] | rw [if_neg c19]); (all_goals try rfl)), yPt hPf hτ⟩, hS.F hτ⟩) hS.2.2 dX3_readyAt_47
  · replace c5 : ¬ inR x n1 := b2_of1 c5
    rw [if_neg c5] at hP hD
    refine lv_iconst (v := 0) hx hb dX3_readyAt_8 (by decide) ?_
    have hPf : va_P G vwCl (W3 k a C n0 M n1 d ((o_rowIf 6 119 x M n1).1)) H1 := by unfold o_rowIf; (all_goals try first | rw [if_pos c5] | rw [if_neg c5]); exact hP
    exact W.iret (v := 0) hx hb hr (fun τ hτ hW => ⟨⟨_, (), rfl, (by unfold o_rowIf; (all_goals try first | rw [if_pos c5] | rw [if_neg c5]); (all_goals try rfl)), yPt hPf hτ⟩, hS.F hτ⟩) hS.2.2 dX3_readyAt_9

set_option maxHeartbeats 4000000 in
set_option maxRecDepth 100000 in
theorem c_X3_clerk (l : Launch) (G : va_G) (k : Nat → ClassId) (a : Nat → Nat) (C : Nat → Nat → Int32) (n0 : Nat) (M : Nat → Nat → Int32) (n1 : Nat) (d : Nat) (th : Int32) (sz : Nat) (x : Int32) (hND : va_D (fun _ => True) (W3 k a C n0 M n1 d th)) (hn1 : n1 ≤ 80) : Met l yX3_clerk wsX3_clerk ({ frames := 2, cells := 0, slots := 0, locals := 43 }) (va_Pc [.ref (a 0), .int x] (yBs G (yT k) (W3 k a C n0 M n1 d th) sz)) (va_Qi (fun (r : Int32) (_ : Unit) => r = (o_rowIf 8 116 x M n1).2) (fun _ τ => va_P G vwCl (W3 k a C n0 M n1 d ((o_rowIf 8 116 x M n1).1)) τ.heap) (va_A (W3 k a C n0 M n1 d th) sz)) 0 0 (va_A (W3 k a C n0 M n1 d th) sz) := by
  refine Met.ofW (cc := cX3_clerk) (maxL := 2) (ret := (some .int)) (by decide) rfl ?_
  intro p e s m args below meth c_ s₁ B hml hv
  obtain ⟨rfl, hsz, hP, hK⟩ := hv
  have hx := B.exec
  have hb := B.bytes
  have hr := B.returns
  have hts := atoms_spec (ws := wsX3_clerk) B.pre
  have hown : s.vm.findClass RX3 = some m.cls := findClass_of_methodNamed B.named
  have hlocks := B.notSynchronized
  have hsz0 : (8 : Nat) < 2 ^ 31 := by decide
  have hsz1 : (80 : Nat) < 2 ^ 31 := by decide
  subst hsz
  have hD := hND.self (sz := s.heap.size)
  generalize hAe : va_A (W3 k a C n0 M n1 d th) s.heap.size = A at hD ⊢
  have hA : ∀ q : Nat, s.heap.size ≤ q → A q := fun q h => by rw [← hAe]; exact Or.inr h
  have hS : va_S A s.heap s.heap [] := va_S.rf
  have hinX3 : ∀ w ∈ u_ws RX3 TX3 19, w ∈ wsX3_clerk := by decide +kernel
  have fl48 := hts (.fieldLink RX3 48 "DunningDeskModel" "states" "[C") (by decide +kernel)
  have fl57 := hts (.fieldLink RX3 57 "DunningDeskModel" "thrown" "I") (by decide +kernel)
  have fl51 := hts (.fieldLink RX3 51 "DunningDeskModel" "clerks" "[I") (by decide +kernel)
  have hl := lv_entry [.ref (a 0), .int x] (n := 2) (Nat.le_of_ble_eq_true rfl)
  rw [lg_entry_eq]
  generalize (lg_sl [.ref (a 0), .int x] ++ List.replicate (2 - (lg_sl [.ref (a 0), .int x]).length) Slot.unset).toArray = ls at hl ⊢
  have hl : lv_has ls 2 [(0, .ref (a 0)), (1, .int x)] := hl
  refine lv_aload_n hx hb dX3_clerk_0 rfl (lv_at hl 0 rfl) ?_
  refine lv_iload_n hx hb dX3_clerk_1 rfl (lv_at hl 1 rfl) ?_
  have hfr9 : ∀ q, va_A (W3 k a C n0 M n1 d th) _ q → A q := va_free hD hS hA [0, 1, 2, 3, 4, 5, 6, 7, 8, 9, 10, 11, 12, 13, 14, 15] rfl
  refine y_rwV (w := W3 k a C n0 M n1 d th) (w' := fun (_ : Unit) => W3 k a C n0 M n1 d (if inR x n1 then 0 else 1)) (As := [.int x]) (rest := []) ⟨hx, hb, hml, hown, hts⟩ (c_X3_noMessage l G k a C n0 M n1 d th _ x (yD hND rfl) (by omega)) (cwV 1 hts gX3_clerk_X3_noMessage rfl rfl rfl (by decide +kernel) ⟨Nat.le_of_ble_eq_true rfl, Nat.le_of_ble_eq_true rfl⟩) hK hP (va_recv hK hP (ci := 5) (q0 := 0) rfl rfl) hS hfr9 rfl hl.1 rfl (Nat.le_of_ble_eq_true rfl) dX3_clerk_2 ⟨Nat.le_of_ble_eq_true rfl, Nat.le_of_ble_eq_true rfl⟩ (fun r u9 H1 locs1 hr9 hP9 hz9 hk9 hS9 => ?_)
  have hP9 : va_P G vwCl (W3 k a C n0 M n1 d (if inR x n1 then 0 else 1)) H1 := hP9
  have hD9 : va_D A (W3 k a C n0 M n1 d (if inR x n1 then 0 else 1)) := yD hD rfl
  clear hP hD hS hfr9 hz9 hk9
  have hP := hP9
  have hD := hD9
  have hS := hS9
  clear hP9 hD9 hS9
  subst hr9
  refine lv_if_eq (tgt := 10) hx hb dX3_clerk_5 (by decide) (fun c5 => ?_) (fun c5 => ?_)
  · replace c5 : inR x n1 := Classical.not_not.mp (b2_of0 c5)
    rw [if_pos c5] at hP hD
    obtain ⟨j, hj, rfl⟩ := inR_of (by omega) c5
    refine lv_aload_n hx hb dX3_clerk_10 rfl (lv_at hl 0 rfl) ?_
    refine lv_aload_n hx hb dX3_clerk_11 rfl (lv_at hl 0 rfl) ?_
    refine va_get (D := G) (ci := 5) (v := .ref (a 13)) (C := RX3) (T := TX3) (N := 19) hx hb hts hinX3 hown hK hP 0 rfl rfl 13 (by decide) fl48 (fun _ h9 => h9) rfl dX3_clerk_12 ?_
    refine lv_iload_n hx hb dX3_clerk_15 rfl (lv_at hl 1 rfl) ?_
    refine y_cald hx hb hK hP 13 2 rfl rfl (j := j) (by omega) hsz1 dX3_clerk_16 ?_
    refine lv_bipush (v := 116) hx hb dX3_clerk_17 (by decide) ?_
    refine lv_icmp_ne (tgt := 26) hx hb dX3_clerk_19 (by decide) (fun c19 => ?_) (fun c19 => ?_)
    · skip
      refine lv_iconst (v := 2) hx hb dX3_clerk_26 (by decide) ?_
      refine va_put (D := G) (ci := 5) (v := .int 2) (ty := .int) (C := RX3) (T := TX3) (N := 19) hx hb hts hinX3 tyX3 tyX3_ok nmX3 hown hK hP hD hS 0 rfl rfl 18 (by decide) fl57 (fun _ h9 => h9) rfl (by decide +kernel) rfl rfl (Nat.le_of_ble_eq_true rfl) dX3_clerk_27 (fun H locs hP hD hS => ?_)
      have hP : va_P G vwCl (W3 k a C n0 M n1 d 2) H := hP
      have hD : va_D A (W3 k a C n0 M n1 d 2) := hD
      refine lv_aload_n hx hb dX3_clerk_30 rfl (lv_at hl 0 rfl) ?_
      refine va_get (D := G) (ci := 5) (v := .int 2) (C := RX3) (T := TX3) (N := 19) hx hb hts hinX3 hown hK hP 0 rfl rfl 18 (by decide) fl57 (fun _ h9 => h9) rfl dX3_clerk_31 ?_
      refine lv_if_le (tgt := 41) hx hb dX3_clerk_34 (by decide) (fun c9 => absurd c9 (by decide)) (fun _ => ?_)
      refine lv_iconst (v := 0) hx hb dX3_clerk_37 (by decide) ?_
      refine lv_goto (tgt := 47) hx hb dX3_clerk_38 (by decide) ?_
      have hPf : va_P G vwCl (W3 k a C n0 M n1 d ((o_rowIf 8 116 (nI j) M n1).1)) H := by unfold o_rowIf; (all_goals try first | rw [if_pos c5] | rw [if_neg c5]); (all_goals try first | rw [if_pos c19] | rw [if_neg c19]); (all_goals try simp only [clI (show j < 80 by omega)]); (all_goals try first | rw [if_pos c5] | rw [if_neg c5]); (all_goals try first | rw [if_pos c19] | rw [if_neg c19]); exact hP
      exact W.iret (v := 0) hx hb hr (fun τ hτ hW => ⟨⟨_, (), rfl, (by unfold o_rowIf; (all_goals try first | rw [if_pos c5] | rw [if_neg c5]); (all_goals try first | rw [if_pos c19] | rw [if_neg c19]); (all_goals try simp only [clI (show j < 80 by omega)]); (all_goals try first | rw [if_pos c5] | rw [if_neg c5]); (all_goals try first | rw [if_pos c19] | rw [if_neg c19]); (all_goals try rfl)), yPt hPf hτ⟩, hS.F hτ⟩) hS.2.2 dX3_clerk_47
    · skip
      refine lv_iconst (v := 0) hx hb dX3_clerk_22 (by decide) ?_
      refine lv_goto (tgt := 27) hx hb dX3_clerk_23 (by decide) ?_
      refine va_put (D := G) (ci := 5) (v := .int 0) (ty := .int) (C := RX3) (T := TX3) (N := 19) hx hb hts hinX3 tyX3 tyX3_ok nmX3 hown hK hP hD hS 0 rfl rfl 18 (by decide) fl57 (fun _ h9 => h9) rfl (by decide +kernel) rfl rfl (Nat.le_of_ble_eq_true rfl) dX3_clerk_27 (fun H locs hP hD hS => ?_)
      have hP : va_P G vwCl (W3 k a C n0 M n1 d 0) H := hP
      have hD : va_D A (W3 k a C n0 M n1 d 0) := hD
      refine lv_aload_n hx hb dX3_clerk_30 rfl (lv_at hl 0 rfl) ?_
      refine va_get (D := G) (ci := 5) (v := .int 0) (C := RX3) (T := TX3) (N := 19) hx hb hts hinX3 hown hK hP 0 rfl rfl 18 (by decide) fl57 (fun _ h9 => h9) rfl dX3_clerk_31 ?_
      refine lv_if_le (tgt := 41) hx hb dX3_clerk_34 (by decide) (fun _ => ?_) (fun c9 => absurd c9 (by decide))
      refine lv_aload_n hx hb dX3_clerk_41 rfl (lv_at hl 0 rfl) ?_
      refine va_get (D := G) (ci := 5) (v := .ref (a 14)) (C := RX3) (T := TX3) (N := 19) hx hb hts hinX3 hown hK hP 0 rfl rfl 14 (by decide) fl51 (fun _ h9 => h9) rfl dX3_clerk_42 ?_
      refine lv_iload_n hx hb dX3_clerk_45 rfl (lv_at hl 1 rfl) ?_
      refine y_iald hx hb hK hP 14 0 rfl rfl (j := j) (by omega) hsz1 dX3_clerk_46 ?_
      have hPf : va_P G vwCl (W3 k a C n0 M n1 d ((o_rowIf 8 116 (nI j) M n1).1)) H := by unfold o_rowIf; (all_goals try first | rw [if_pos c5] | rw [if_neg c5]); (all_goals try first | rw [if_pos c19] | rw [if_neg c19]); (all_goals try simp only [clI (show j < 80 by omega)]); (all_goals try first | rw [if_pos c5] | rw [if_neg c5]); (all_goals try first | rw [if_pos c19] | rw [if_neg c19]); exact hP
      exact W.iret (v := (M 8 j)) hx hb hr (fun τ hτ hW => ⟨⟨_, (), rfl, (by unfold o_rowIf; (all_goals try first | rw [if_pos c5] | rw [if_neg c5]); (all_goals try first | rw [if_pos c19] | rw [if_neg c19]); (all_goals try simp only [clI (show j < 80 by omega)]); (all_goals try first | rw [if_pos c5] | rw [if_neg c5]); (all_goals try first | rw [if_pos c19] | rw [if_neg c19]); (all_goals try rfl)), yPt hPf hτ⟩, hS.F hτ⟩) hS.2.2 dX3_clerk_47
  · replace c5 : ¬ inR x n1 := b2_of1 c5
    rw [if_neg c5] at hP hD
    refine lv_iconst (v := 0) hx hb dX3_clerk_8 (by decide) ?_
    have hPf : va_P G vwCl (W3 k a C n0 M n1 d ((o_rowIf 8 116 x M n1).1)) H1 := by unfold o_rowIf; (all_goals try first | rw [if_pos c5] | rw [if_neg c5]); exact hP
    exact W.iret (v := 0) hx hb hr (fun τ hτ hW => ⟨⟨_, (), rfl, (by unfold o_rowIf; (all_goals try first | rw [if_pos c5] | rw [if_neg c5]); (all_goals try rfl)), yPt hPf hτ⟩, hS.F hτ⟩) hS.2.2 dX3_clerk_9

set_option maxHeartbeats 4000000 in
set_option maxRecDepth 100000 in
theorem c_X3_ready (l : Launch) (G : va_G) (k : Nat → ClassId) (a : Nat → Nat) (C : Nat → Nat → Int32) (n0 : Nat) (M : Nat → Nat → Int32) (n1 : Nat) (d : Nat) (th : Int32) (sz : Nat) (q : Int32) (hND : va_D (fun _ => True) (W3 k a C n0 M n1 d th)) (hn1 : n1 ≤ 80) : Met l yX3_ready wsX3_ready ({ frames := 2, cells := 0, slots := 0, locals := 45 }) (va_Pc [.ref (a 0), .int q] (yBs G (yT k) (W3 k a C n0 M n1 d th) sz)) (va_Qi (fun (r : Int32) (_ : Unit) => r = (o_ready q M n1 d).2) (fun _ τ => va_P G vwCl (W3 k a C n0 M n1 d ((o_ready q M n1 d).1)) τ.heap) (va_A (W3 k a C n0 M n1 d th) sz)) 0 0 (va_A (W3 k a C n0 M n1 d th) sz) := by
  refine Met.ofW (cc := cX3_ready) (maxL := 2) (ret := (some .int)) (by decide) rfl ?_
  intro p e s m args below meth c_ s₁ B hml hv
  obtain ⟨rfl, hsz, hP, hK⟩ := hv
  have hx := B.exec
  have hb := B.bytes
  have hr := B.returns
  have hts := atoms_spec (ws := wsX3_ready) B.pre
  have hown : s.vm.findClass RX3 = some m.cls := findClass_of_methodNamed B.named
  have hlocks := B.notSynchronized
  have hsz0 : (8 : Nat) < 2 ^ 31 := by decide
  have hsz1 : (80 : Nat) < 2 ^ 31 := by decide
  subst hsz
  have hD := hND.self (sz := s.heap.size)
  generalize hAe : va_A (W3 k a C n0 M n1 d th) s.heap.size = A at hD ⊢
  have hA : ∀ q : Nat, s.heap.size ≤ q → A q := fun q h => by rw [← hAe]; exact Or.inr h
  have hS : va_S A s.heap s.heap [] := va_S.rf
  have hinX3 : ∀ w ∈ u_ws RX3 TX3 19, w ∈ wsX3_ready := by decide +kernel
  have fl57 := hts (.fieldLink RX3 57 "DunningDeskModel" "thrown" "I") (by decide +kernel)
  have hl := lv_entry [.ref (a 0), .int q] (n := 2) (Nat.le_of_ble_eq_true rfl)
  rw [lg_entry_eq]
  generalize (lg_sl [.ref (a 0), .int q] ++ List.replicate (2 - (lg_sl [.ref (a 0), .int q]).length) Slot.unset).toArray = ls at hl ⊢
  have hl : lv_has ls 2 [(0, .ref (a 0)), (1, .int q)] := hl
  refine lv_aload_n hx hb dX3_ready_0 rfl (lv_at hl 0 rfl) ?_
  refine lv_iload_n hx hb dX3_ready_1 rfl (lv_at hl 1 rfl) ?_
  refine lv_iconst (v := 0) hx hb dX3_ready_2 (by decide) ?_
  refine lv_iconst (v := 2) hx hb dX3_ready_3 (by decide) ?_
  refine y_roS (As := [.int q, .int 0, .int 2]) (rest := [.ref (a 0)]) ⟨hx, hb, hml, hown, hts⟩ (c_X3_in l q 0 2 ) (va_cwS 3 hts gX3_ready_X3_in rfl rfl rfl (by decide +kernel) ⟨Nat.le_of_ble_eq_true rfl, Nat.le_of_ble_eq_true rfl⟩) rfl hl.1 rfl (Nat.le_of_ble_eq_true rfl) dX3_ready_4 ⟨Nat.le_of_ble_eq_true rfl, Nat.le_of_ble_eq_true rfl⟩ (fun r hr9 => ?_)
  subst hr9
  refine lv_if_eq (tgt := 14) hx hb dX3_ready_7 (by decide) (fun c7 => ?_) (fun c7 => ?_)
  · replace c7 : ¬ (rg 0 2 q) := b2_of0 c7
    refine lv_iconst (v := 1) hx hb dX3_ready_14 (by decide) ?_
    refine va_put (D := G) (ci := 5) (v := .int 1) (ty := .int) (C := RX3) (T := TX3) (N := 19) hx hb hts hinX3 tyX3 tyX3_ok nmX3 hown hK hP hD hS 0 rfl rfl 18 (by decide) fl57 (fun _ h9 => h9) rfl (by decide +kernel) rfl rfl (Nat.le_of_ble_eq_true rfl) dX3_ready_15 (fun H locs hP hD hS => ?_)
    have hP : va_P G vwCl (W3 k a C n0 M n1 d 1) H := hP
    have hD : va_D A (W3 k a C n0 M n1 d 1) := hD
    refine lv_aload_n hx hb dX3_ready_18 rfl (lv_at hl 0 rfl) ?_
    refine va_get (D := G) (ci := 5) (v := .int 1) (C := RX3) (T := TX3) (N := 19) hx hb hts hinX3 hown hK hP 0 rfl rfl 18 (by decide) fl57 (fun _ h9 => h9) rfl dX3_ready_19 ?_
    refine lv_if_le (tgt := 29) hx hb dX3_ready_22 (by decide) (fun c9 => absurd c9 (by decide)) (fun _ => ?_)
    refine lv_iconst (v := 0) hx hb dX3_ready_25 (by decide) ?_
    refine lv_goto (tgt := 34) hx hb dX3_ready_26 (by decide) ?_
    have hPf : va_P G vwCl (W3 k a C n0 M n1 d ((o_ready q M n1 d).1)) H := by unfold o_ready; (all_goals try first | rw [if_pos c7] | rw [if_neg c7]); exact hP
    exact W.iret (v := 0) hx hb hr (fun τ hτ hW => ⟨⟨_, (), rfl, (by unfold o_ready; (all_goals try first | rw [if_pos c7] | rw [if_neg c7]); (all_goals try rfl)), yPt hPf hτ⟩, hS.F hτ⟩) hS.2.2 dX3_ready_34
  · replace c7 : rg 0 2 q := b2_of1 c7
    refine lv_iconst (v := 0) hx hb dX3_ready_10 (by decide) ?_
    refine lv_goto (tgt := 15) hx hb dX3_ready_11 (by decide) ?_
    refine va_put (D := G) (ci := 5) (v := .int 0) (ty := .int) (C := RX3) (T := TX3) (N := 19) hx hb hts hinX3 tyX3 tyX3_ok nmX3 hown hK hP hD hS 0 rfl rfl 18 (by decide) fl57 (fun _ h9 => h9) rfl (by decide +kernel) rfl rfl (Nat.le_of_ble_eq_true rfl) dX3_ready_15 (fun H locs hP hD hS => ?_)
    have hP : va_P G vwCl (W3 k a C n0 M n1 d 0) H := hP
    have hD : va_D A (W3 k a C n0 M n1 d 0) := hD
    refine lv_aload_n hx hb dX3_ready_18 rfl (lv_at hl 0 rfl) ?_
    refine va_get (D := G) (ci := 5) (v := .int 0) (C := RX3) (T := TX3) (N := 19) hx hb hts hinX3 hown hK hP 0 rfl rfl 18 (by decide) fl57 (fun _ h9 => h9) rfl dX3_ready_19 ?_
    refine lv_if_le (tgt := 29) hx hb dX3_ready_22 (by decide) (fun _ => ?_) (fun c9 => absurd c9 (by decide))
    refine lv_aload_n hx hb dX3_ready_29 rfl (lv_at hl 0 rfl) ?_
    refine lv_iload_n hx hb dX3_ready_30 rfl (lv_at hl 1 rfl) ?_
    refine y_roV (As := [.int q]) (rest := []) ⟨hx, hb, hml, hown, hts⟩ (c_X3_readyIn l G k a C n0 M n1 d 0 q (by omega)) (cwV 1 hts gX3_ready_X3_readyIn rfl rfl rfl (by decide +kernel) ⟨Nat.le_of_ble_eq_true rfl, Nat.le_of_ble_eq_true rfl⟩) hK hP (va_recv hK hP (ci := 5) (q0 := 0) rfl rfl) rfl hl.1 rfl (Nat.le_of_ble_eq_true rfl) dX3_ready_31 ⟨Nat.le_of_ble_eq_true rfl, Nat.le_of_ble_eq_true rfl⟩ (fun r hr9 => ?_)
    subst hr9
    have hPf : va_P G vwCl (W3 k a C n0 M n1 d ((o_ready q M n1 d).1)) H := by unfold o_ready; (all_goals try first | rw [if_pos c7] | rw [if_neg c7]); exact hP
    exact W.iret (v := (nI (cnt (fun z => decide (rdy M q (nI d) z)) n1 0 0))) hx hb hr (fun τ hτ hW => ⟨⟨_, (), rfl, (by unfold o_ready; (all_goals try first | rw [if_pos c7] | rw [if_neg c7]); (all_goals try rfl)), yPt hPf hτ⟩, hS.F hτ⟩) hS.2.2 dX3_ready_34

set_option maxHeartbeats 4000000 in
set_option maxRecDepth 100000 in
theorem c_X3_has (l : Launch) (G : va_G) (k : Nat → ClassId) (a : Nat → Nat) (C : Nat → Nat → Int32) (n0 : Nat) (M : Nat → Nat → Int32) (n1 : Nat) (d : Nat) (th : Int32) (sz : Nat) (u : Int32) (hND : va_D (fun _ => True) (W3 k a C n0 M n1 d th)) (hn1 : n1 ≤ 80) : Met l yX3_has wsX3_has ({ frames := 1, cells := 0, slots := 0, locals := 23 }) (va_Pc [.ref (a 0), .int u] (yBs G (yT k) (W3 k a C n0 M n1 d th) sz)) (va_Qi (fun (r : Int32) (_ : Unit) => r = (o_has u M n1).2) (fun _ τ => va_P G vwCl (W3 k a C n0 M n1 d ((o_has u M n1).1)) τ.heap) (va_A (W3 k a C n0 M n1 d th) sz)) 0 0 (va_A (W3 k a C n0 M n1 d th) sz) := by
  refine Met.ofW (cc := cX3_has) (maxL := 2) (ret := (some .int)) (by decide) rfl ?_
  intro p e s m args below meth c_ s₁ B hml hv
  obtain ⟨rfl, hsz, hP, hK⟩ := hv
  have hx := B.exec
  have hb := B.bytes
  have hr := B.returns
  have hts := atoms_spec (ws := wsX3_has) B.pre
  have hown : s.vm.findClass RX3 = some m.cls := findClass_of_methodNamed B.named
  have hlocks := B.notSynchronized
  have hsz0 : (8 : Nat) < 2 ^ 31 := by decide
  have hsz1 : (80 : Nat) < 2 ^ 31 := by decide
  subst hsz
  have hD := hND.self (sz := s.heap.size)
  generalize hAe : va_A (W3 k a C n0 M n1 d th) s.heap.size = A at hD ⊢
  have hA : ∀ q : Nat, s.heap.size ≤ q → A q := fun q h => by rw [← hAe]; exact Or.inr h
  have hS : va_S A s.heap s.heap [] := va_S.rf
  have hinX3 : ∀ w ∈ u_ws RX3 TX3 19, w ∈ wsX3_has := by decide +kernel
  have fl57 := hts (.fieldLink RX3 57 "DunningDeskModel" "thrown" "I") (by decide +kernel)
  have hl := lv_entry [.ref (a 0), .int u] (n := 2) (Nat.le_of_ble_eq_true rfl)
  rw [lg_entry_eq]
  generalize (lg_sl [.ref (a 0), .int u] ++ List.replicate (2 - (lg_sl [.ref (a 0), .int u]).length) Slot.unset).toArray = ls at hl ⊢
  have hl : lv_has ls 2 [(0, .ref (a 0)), (1, .int u)] := hl
  refine lv_aload_n hx hb dX3_has_0 rfl (lv_at hl 0 rfl) ?_
  refine lv_iload_n hx hb dX3_has_1 rfl (lv_at hl 1 rfl) ?_
  refine lv_iconst (v := 0) hx hb dX3_has_2 (by decide) ?_
  refine lv_iconst (v := 3) hx hb dX3_has_3 (by decide) ?_
  refine y_roS (As := [.int u, .int 0, .int 3]) (rest := [.ref (a 0)]) ⟨hx, hb, hml, hown, hts⟩ (c_X3_in l u 0 3 ) (va_cwS 3 hts gX3_has_X3_in rfl rfl rfl (by decide +kernel) ⟨Nat.le_of_ble_eq_true rfl, Nat.le_of_ble_eq_true rfl⟩) rfl hl.1 rfl (Nat.le_of_ble_eq_true rfl) dX3_has_4 ⟨Nat.le_of_ble_eq_true rfl, Nat.le_of_ble_eq_true rfl⟩ (fun r hr9 => ?_)
  subst hr9
  refine lv_if_eq (tgt := 14) hx hb dX3_has_7 (by decide) (fun c7 => ?_) (fun c7 => ?_)
  · replace c7 : ¬ (rg 0 3 u) := b2_of0 c7
    refine lv_iconst (v := 1) hx hb dX3_has_14 (by decide) ?_
    refine va_put (D := G) (ci := 5) (v := .int 1) (ty := .int) (C := RX3) (T := TX3) (N := 19) hx hb hts hinX3 tyX3 tyX3_ok nmX3 hown hK hP hD hS 0 rfl rfl 18 (by decide) fl57 (fun _ h9 => h9) rfl (by decide +kernel) rfl rfl (Nat.le_of_ble_eq_true rfl) dX3_has_15 (fun H locs hP hD hS => ?_)
    have hP : va_P G vwCl (W3 k a C n0 M n1 d 1) H := hP
    have hD : va_D A (W3 k a C n0 M n1 d 1) := hD
    refine lv_aload_n hx hb dX3_has_18 rfl (lv_at hl 0 rfl) ?_
    refine va_get (D := G) (ci := 5) (v := .int 1) (C := RX3) (T := TX3) (N := 19) hx hb hts hinX3 hown hK hP 0 rfl rfl 18 (by decide) fl57 (fun _ h9 => h9) rfl dX3_has_19 ?_
    refine lv_if_le (tgt := 29) hx hb dX3_has_22 (by decide) (fun c9 => absurd c9 (by decide)) (fun _ => ?_)
    refine lv_iconst (v := 0) hx hb dX3_has_25 (by decide) ?_
    refine lv_goto (tgt := 34) hx hb dX3_has_26 (by decide) ?_
    have hPf : va_P G vwCl (W3 k a C n0 M n1 d ((o_has u M n1).1)) H := by unfold o_has; (all_goals try first | rw [if_pos c7] | rw [if_neg c7]); exact hP
    exact W.iret (v := 0) hx hb hr (fun τ hτ hW => ⟨⟨_, (), rfl, (by unfold o_has; (all_goals try first | rw [if_pos c7] | rw [if_neg c7]); (all_goals try rfl)), yPt hPf hτ⟩, hS.F hτ⟩) hS.2.2 dX3_has_34
  · replace c7 : rg 0 3 u := b2_of1 c7
    refine lv_iconst (v := 0) hx hb dX3_has_10 (by decide) ?_
    refine lv_goto (tgt := 15) hx hb dX3_has_11 (by decide) ?_
    refine va_put (D := G) (ci := 5) (v := .int 0) (ty := .int) (C := RX3) (T := TX3) (N := 19) hx hb hts hinX3 tyX3 tyX3_ok nmX3 hown hK hP hD hS 0 rfl rfl 18 (by decide) fl57 (fun _ h9 => h9) rfl (by decide +kernel) rfl rfl (Nat.le_of_ble_eq_true rfl) dX3_has_15 (fun H locs hP hD hS => ?_)
    have hP : va_P G vwCl (W3 k a C n0 M n1 d 0) H := hP
    have hD : va_D A (W3 k a C n0 M n1 d 0) := hD
    refine lv_aload_n hx hb dX3_has_18 rfl (lv_at hl 0 rfl) ?_
    refine va_get (D := G) (ci := 5) (v := .int 0) (C := RX3) (T := TX3) (N := 19) hx hb hts hinX3 hown hK hP 0 rfl rfl 18 (by decide) fl57 (fun _ h9 => h9) rfl dX3_has_19 ?_
    refine lv_if_le (tgt := 29) hx hb dX3_has_22 (by decide) (fun _ => ?_) (fun c9 => absurd c9 (by decide))
    refine lv_aload_n hx hb dX3_has_29 rfl (lv_at hl 0 rfl) ?_
    refine lv_iload_n hx hb dX3_has_30 rfl (lv_at hl 1 rfl) ?_
    refine y_roV (As := [.int u]) (rest := []) ⟨hx, hb, hml, hown, hts⟩ (c_X3_taken l G k a C n0 M n1 d 0 u (by omega)) (cwV 1 hts gX3_has_X3_taken rfl rfl rfl (by decide +kernel) ⟨Nat.le_of_ble_eq_true rfl, Nat.le_of_ble_eq_true rfl⟩) hK hP (va_recv hK hP (ci := 5) (q0 := 0) rfl rfl) rfl hl.1 rfl (Nat.le_of_ble_eq_true rfl) dX3_has_31 ⟨Nat.le_of_ble_eq_true rfl, Nat.le_of_ble_eq_true rfl⟩ (fun r hr9 => ?_)
    subst hr9
    have hPf : va_P G vwCl (W3 k a C n0 M n1 d ((o_has u M n1).1)) H := by unfold o_has; (all_goals try first | rw [if_pos c7] | rw [if_neg c7]); exact hP
    exact W.iret (v := (nI (cnt (fun z => decide (tkn M u z)) n1 0 0))) hx hb hr (fun τ hτ hW => ⟨⟨_, (), rfl, (by unfold o_has; (all_goals try first | rw [if_pos c7] | rw [if_neg c7]); (all_goals try rfl)), yPt hPf hτ⟩, hS.F hτ⟩) hS.2.2 dX3_has_34

set_option maxHeartbeats 4000000 in
set_option maxRecDepth 100000 in
theorem c_X3_readyAtPlace (l : Launch) (G : va_G) (k : Nat → ClassId) (a : Nat → Nat) (C : Nat → Nat → Int32) (n0 : Nat) (M : Nat → Nat → Int32) (n1 : Nat) (d : Nat) (th : Int32) (sz : Nat) (q pl : Int32) (hND : va_D (fun _ => True) (W3 k a C n0 M n1 d th)) (hn1 : n1 ≤ 80) : Met l yX3_readyAtPlace wsX3_readyAtPlace ({ frames := 2, cells := 0, slots := 0, locals := 47 }) (va_Pc [.ref (a 0), .int q, .int pl] (yBs G (yT k) (W3 k a C n0 M n1 d th) sz)) (va_Qi (fun (r : Int32) (_ : Unit) => r = (o_rap q pl M n1 d).2) (fun _ τ => va_P G vwCl (W3 k a C n0 M n1 d ((o_rap q pl M n1 d).1)) τ.heap) (va_A (W3 k a C n0 M n1 d th) sz)) 0 0 (va_A (W3 k a C n0 M n1 d th) sz) := by
  refine Met.ofW (cc := cX3_readyAtPlace) (maxL := 4) (ret := (some .int)) (by decide) rfl ?_
  intro p e s m args below meth c_ s₁ B hml hv
  obtain ⟨rfl, hsz, hP, hK⟩ := hv
  have hx := B.exec
  have hb := B.bytes
  have hr := B.returns
  have hts := atoms_spec (ws := wsX3_readyAtPlace) B.pre
  have hown : s.vm.findClass RX3 = some m.cls := findClass_of_methodNamed B.named
  have hlocks := B.notSynchronized
  have hsz0 : (8 : Nat) < 2 ^ 31 := by decide
  have hsz1 : (80 : Nat) < 2 ^ 31 := by decide
  subst hsz
  have hD := hND.self (sz := s.heap.size)
  generalize hAe : va_A (W3 k a C n0 M n1 d th) s.heap.size = A at hD ⊢
  have hA : ∀ q : Nat, s.heap.size ≤ q → A q := fun q h => by rw [← hAe]; exact Or.inr h
  have hS : va_S A s.heap s.heap [] := va_S.rf
  have hinX3 : ∀ w ∈ u_ws RX3 TX3 19, w ∈ wsX3_readyAtPlace := by decide +kernel
  have fl57 := hts (.fieldLink RX3 57 "DunningDeskModel" "thrown" "I") (by decide +kernel)
  have hl := lv_entry [.ref (a 0), .int q, .int pl] (n := 4) (Nat.le_of_ble_eq_true rfl)
  rw [lg_entry_eq]
  generalize (lg_sl [.ref (a 0), .int q, .int pl] ++ List.replicate (4 - (lg_sl [.ref (a 0), .int q, .int pl]).length) Slot.unset).toArray = ls at hl ⊢
  have hl : lv_has ls 4 [(0, .ref (a 0)), (1, .int q), (2, .int pl)] := hl
  refine lv_iload_n hx hb dX3_readyAtPlace_0 rfl (lv_at hl 1 rfl) ?_
  refine lv_iconst (v := 0) hx hb dX3_readyAtPlace_1 (by decide) ?_
  refine lv_iconst (v := 2) hx hb dX3_readyAtPlace_2 (by decide) ?_
  refine y_roS (As := [.int q, .int 0, .int 2]) (rest := []) ⟨hx, hb, hml, hown, hts⟩ (c_X3_in l q 0 2 ) (va_cwS 3 hts gX3_readyAtPlace_X3_in rfl rfl rfl (by decide +kernel) ⟨Nat.le_of_ble_eq_true rfl, Nat.le_of_ble_eq_true rfl⟩) rfl hl.1 rfl (Nat.le_of_ble_eq_true rfl) dX3_readyAtPlace_3 ⟨Nat.le_of_ble_eq_true rfl, Nat.le_of_ble_eq_true rfl⟩ (fun r hr9 => ?_)
  subst hr9
  refine lv_if_ne (tgt := 15) hx hb dX3_readyAtPlace_6 (by decide) (fun c6 => ?_) (fun c6 => ?_)
  · replace c6 : rg 0 2 q := b2_of1 c6
    refine lv_aload_n hx hb dX3_readyAtPlace_15 rfl (lv_at hl 0 rfl) ?_
    refine lv_iload_n hx hb dX3_readyAtPlace_16 rfl (lv_at hl 1 rfl) ?_
    refine lv_iload_n hx hb dX3_readyAtPlace_17 rfl (lv_at hl 2 rfl) ?_
    refine y_roV (As := [.int q, .int pl]) (rest := []) ⟨hx, hb, hml, hown, hts⟩ (c_X3_place l G k a C n0 M n1 d th q pl (by omega)) (cwV 2 hts gX3_readyAtPlace_X3_place rfl rfl rfl (by decide +kernel) ⟨Nat.le_of_ble_eq_true rfl, Nat.le_of_ble_eq_true rfl⟩) hK hP (va_recv hK hP (ci := 5) (q0 := 0) rfl rfl) rfl hl.1 rfl (Nat.le_of_ble_eq_true rfl) dX3_readyAtPlace_18 ⟨Nat.le_of_ble_eq_true rfl, Nat.le_of_ble_eq_true rfl⟩ (fun r hr9 => ?_)
    subst hr9
    refine lv_istore_n (lv' := [(3, .int (oI (plc M q (nI d) pl n1 n1 0))), (0, .ref (a 0)), (1, .int q), (2, .int pl)]) hx hb dX3_readyAtPlace_21 rfl hl (by decide) rfl (fun ls hl => ?_)
    refine lv_aload_n hx hb dX3_readyAtPlace_22 rfl (lv_at hl 1 rfl) ?_
    refine lv_iload_n hx hb dX3_readyAtPlace_23 rfl (lv_at hl 0 rfl) ?_
    refine lv_iconst (v := (-1)) hx hb dX3_readyAtPlace_24 (by decide) ?_
    refine lv_icmp_ne (tgt := 32) hx hb dX3_readyAtPlace_25 (by decide) (fun c25 => ?_) (fun c25 => ?_)
    · replace c25 : ¬ plc M q (nI d) pl n1 n1 0 = none := fun h9 => c25 (by rw [h9]; rfl)
      refine lv_iconst (v := 0) hx hb dX3_readyAtPlace_32 (by decide) ?_
      refine va_put (D := G) (ci := 5) (v := .int 0) (ty := .int) (C := RX3) (T := TX3) (N := 19) hx hb hts hinX3 tyX3 tyX3_ok nmX3 hown hK hP hD hS 0 rfl rfl 18 (by decide) fl57 (fun _ h9 => h9) rfl (by decide +kernel) rfl rfl (Nat.le_of_ble_eq_true rfl) dX3_readyAtPlace_33 (fun H locs hP hD hS => ?_)
      have hP : va_P G vwCl (W3 k a C n0 M n1 d 0) H := hP
      have hD : va_D A (W3 k a C n0 M n1 d 0) := hD
      refine lv_aload_n hx hb dX3_readyAtPlace_36 rfl (lv_at hl 1 rfl) ?_
      refine va_get (D := G) (ci := 5) (v := .int 0) (C := RX3) (T := TX3) (N := 19) hx hb hts hinX3 hown hK hP 0 rfl rfl 18 (by decide) fl57 (fun _ h9 => h9) rfl dX3_readyAtPlace_37 ?_
      refine lv_if_le (tgt := 47) hx hb dX3_readyAtPlace_40 (by decide) (fun _ => ?_) (fun c9 => absurd c9 (by decide))
      refine lv_iload_n hx hb dX3_readyAtPlace_47 rfl (lv_at hl 0 rfl) ?_
      have hPf : va_P G vwCl (W3 k a C n0 M n1 d ((o_rap q pl M n1 d).1)) H := by unfold o_rap; (all_goals try first | rw [if_pos c6] | rw [if_neg c6]); (all_goals try first | rw [if_pos c25] | rw [if_neg c25]); exact hP
      exact W.iret (v := (oI (plc M q (nI d) pl n1 n1 0))) hx hb hr (fun τ hτ hW => ⟨⟨_, (), rfl, (by unfold o_rap; (all_goals try first | rw [if_pos c6] | rw [if_neg c6]); (all_goals try first | rw [if_pos c25] | rw [if_neg c25]); (all_goals try rfl)), yPt hPf hτ⟩, hS.F hτ⟩) hS.2.2 dX3_readyAtPlace_48
    · replace c25 : plc M q (nI d) pl n1 n1 0 = none := oI_none (fun z h => by have := plc_lt h; omega) c25
      rw [c25] at hl
      refine lv_iconst (v := 2) hx hb dX3_readyAtPlace_28 (by decide) ?_
      refine lv_goto (tgt := 33) hx hb dX3_readyAtPlace_29 (by decide) ?_
      refine va_put (D := G) (ci := 5) (v := .int 2) (ty := .int) (C := RX3) (T := TX3) (N := 19) hx hb hts hinX3 tyX3 tyX3_ok nmX3 hown hK hP hD hS 0 rfl rfl 18 (by decide) fl57 (fun _ h9 => h9) rfl (by decide +kernel) rfl rfl (Nat.le_of_ble_eq_true rfl) dX3_readyAtPlace_33 (fun H locs hP hD hS => ?_)
      have hP : va_P G vwCl (W3 k a C n0 M n1 d 2) H := hP
      have hD : va_D A (W3 k a C n0 M n1 d 2) := hD
      refine lv_aload_n hx hb dX3_readyAtPlace_36 rfl (lv_at hl 1 rfl) ?_
      refine va_get (D := G) (ci := 5) (v := .int 2) (C := RX3) (T := TX3) (N := 19) hx hb hts hinX3 hown hK hP 0 rfl rfl 18 (by decide) fl57 (fun _ h9 => h9) rfl dX3_readyAtPlace_37 ?_
      refine lv_if_le (tgt := 47) hx hb dX3_readyAtPlace_40 (by decide) (fun c9 => absurd c9 (by decide)) (fun _ => ?_)
      refine lv_iconst (v := 0) hx hb dX3_readyAtPlace_43 (by decide) ?_
      refine lv_goto (tgt := 48) hx hb dX3_readyAtPlace_44 (by decide) ?_
      have hPf : va_P G vwCl (W3 k a C n0 M n1 d ((o_rap q pl M n1 d).1)) H := by unfold o_rap; (all_goals try first | rw [if_pos c6] | rw [if_neg c6]); (all_goals try first | rw [if_pos c25] | rw [if_neg c25]); exact hP
      exact W.iret (v := 0) hx hb hr (fun τ hτ hW => ⟨⟨_, (), rfl, (by unfold o_rap; (all_goals try first | rw [if_pos c6] | rw [if_neg c6]); (all_goals try first | rw [if_pos c25] | rw [if_neg c25]); (all_goals try rfl)), yPt hPf hτ⟩, hS.F hτ⟩) hS.2.2 dX3_readyAtPlace_48
  · replace c6 : ¬ (rg 0 2 q) := b2_of0 c6
    refine lv_aload_n hx hb dX3_readyAtPlace_9 rfl (lv_at hl 0 rfl) ?_
    refine lv_iconst (v := 1) hx hb dX3_readyAtPlace_10 (by decide) ?_
    have hfr9 : ∀ q, va_A (W3 k a C n0 M n1 d th) _ q → A q := va_free hD hS hA [0, 1, 2, 3, 4, 5, 6, 7, 8, 9, 10, 11, 12, 13, 14, 15] rfl
    refine y_rwV (w := W3 k a C n0 M n1 d th) (w' := fun (_ : Unit) => W3 k a C n0 M n1 d 1) (As := [.int 1]) (rest := []) ⟨hx, hb, hml, hown, hts⟩ (c_X3_raises l G k a C n0 M n1 d th _ 1 (yD hND rfl) ) (cwV 1 hts gX3_readyAtPlace_X3_raises rfl rfl rfl (by decide +kernel) ⟨Nat.le_of_ble_eq_true rfl, Nat.le_of_ble_eq_true rfl⟩) hK hP (va_recv hK hP (ci := 5) (q0 := 0) rfl rfl) hS hfr9 rfl hl.1 rfl (Nat.le_of_ble_eq_true rfl) dX3_readyAtPlace_11 ⟨Nat.le_of_ble_eq_true rfl, Nat.le_of_ble_eq_true rfl⟩ (fun r u9 H1 locs1 hr9 hP9 hz9 hk9 hS9 => ?_)
    have hP9 : va_P G vwCl (W3 k a C n0 M n1 d 1) H1 := hP9
    have hD9 : va_D A (W3 k a C n0 M n1 d 1) := yD hD rfl
    clear hP hD hS hfr9 hz9 hk9
    have hP := hP9
    have hD := hD9
    have hS := hS9
    clear hP9 hD9 hS9
    subst hr9
    have hPf : va_P G vwCl (W3 k a C n0 M n1 d ((o_rap q pl M n1 d).1)) H1 := by unfold o_rap; (all_goals try first | rw [if_pos c6] | rw [if_neg c6]); exact hP
    exact W.iret (v := 0) hx hb hr (fun τ hτ hW => ⟨⟨_, (), rfl, (by unfold o_rap; (all_goals try first | rw [if_pos c6] | rw [if_neg c6]); (all_goals try rfl)), yPt hPf hτ⟩, hS.F hτ⟩) hS.2.2 dX3_readyAtPlace_14

set_option maxHeartbeats 4000000 in
set_option maxRecDepth 100000 in
theorem c_X3_take (l : Launch) (G : va_G) (k : Nat → ClassId) (a : Nat → Nat) (C : Nat → Nat → Int32) (n0 : Nat) (M : Nat → Nat → Int32) (n1 : Nat) (d : Nat) (th : Int32) (sz : Nat) (u q : Int32) (hND : va_D (fun _ => True) (W3 k a C n0 M n1 d th)) (hn1 : n1 ≤ 80) : Met l yX3_take wsX3_take ({ frames := 2, cells := 0, slots := 0, locals := 47 }) (va_Pc [.ref (a 0), .int u, .int q] (yBs G (yT k) (W3 k a C n0 M n1 d th) sz)) (va_Qi (fun (r : Int32) (_ : Unit) => r = (o_take u q M n1 d).2.1) (fun _ τ => va_P G vwCl (W3 k a C n0 ((o_take u q M n1 d).2.2) n1 d ((o_take u q M n1 d).1)) τ.heap) (va_A (W3 k a C n0 M n1 d th) sz)) 0 0 (va_A (W3 k a C n0 M n1 d th) sz) := by
  refine Met.ofW (cc := cX3_take) (maxL := 4) (ret := (some .int)) (by decide) rfl ?_
  intro p e s m args below meth c_ s₁ B hml hv
  obtain ⟨rfl, hsz, hP, hK⟩ := hv
  have hx := B.exec
  have hb := B.bytes
  have hr := B.returns
  have hts := atoms_spec (ws := wsX3_take) B.pre
  have hown : s.vm.findClass RX3 = some m.cls := findClass_of_methodNamed B.named
  have hlocks := B.notSynchronized
  have hsz0 : (8 : Nat) < 2 ^ 31 := by decide
  have hsz1 : (80 : Nat) < 2 ^ 31 := by decide
  subst hsz
  have hD := hND.self (sz := s.heap.size)
  generalize hAe : va_A (W3 k a C n0 M n1 d th) s.heap.size = A at hD ⊢
  have hA : ∀ q : Nat, s.heap.size ≤ q → A q := fun q h => by rw [← hAe]; exact Or.inr h
  have hS : va_S A s.heap s.heap [] := va_S.rf
  have hinX3 : ∀ w ∈ u_ws RX3 TX3 19, w ∈ wsX3_take := by decide +kernel
  have fl57 := hts (.fieldLink RX3 57 "DunningDeskModel" "thrown" "I") (by decide +kernel)
  have fl48 := hts (.fieldLink RX3 48 "DunningDeskModel" "states" "[C") (by decide +kernel)
  have fl51 := hts (.fieldLink RX3 51 "DunningDeskModel" "clerks" "[I") (by decide +kernel)
  have fl54 := hts (.fieldLink RX3 54 "DunningDeskModel" "takenOn" "[I") (by decide +kernel)
  have fl71 := hts (.fieldLink RX3 71 "DunningDeskModel" "day" "I") (by decide +kernel)
  have hl := lv_entry [.ref (a 0), .int u, .int q] (n := 4) (Nat.le_of_ble_eq_true rfl)
  rw [lg_entry_eq]
  generalize (lg_sl [.ref (a 0), .int u, .int q] ++ List.replicate (4 - (lg_sl [.ref (a 0), .int u, .int q]).length) Slot.unset).toArray = ls at hl ⊢
  have hl : lv_has ls 4 [(0, .ref (a 0)), (1, .int u), (2, .int q)] := hl
  refine lv_iload_n hx hb dX3_take_0 rfl (lv_at hl 1 rfl) ?_
  refine lv_iconst (v := 0) hx hb dX3_take_1 (by decide) ?_
  refine lv_iconst (v := 3) hx hb dX3_take_2 (by decide) ?_
  refine y_roS (As := [.int u, .int 0, .int 3]) (rest := []) ⟨hx, hb, hml, hown, hts⟩ (c_X3_in l u 0 3 ) (va_cwS 3 hts gX3_take_X3_in rfl rfl rfl (by decide +kernel) ⟨Nat.le_of_ble_eq_true rfl, Nat.le_of_ble_eq_true rfl⟩) rfl hl.1 rfl (Nat.le_of_ble_eq_true rfl) dX3_take_3 ⟨Nat.le_of_ble_eq_true rfl, Nat.le_of_ble_eq_true rfl⟩ (fun r hr9 => ?_)
  subst hr9
  refine lv_if_eq (tgt := 18) hx hb dX3_take_6 (by decide) (fun c6 => ?_) (fun c6 => ?_)
  · replace c6 : ¬ (rg 0 3 u) := b2_of0 c6
    refine lv_aload_n hx hb dX3_take_18 rfl (lv_at hl 0 rfl) ?_
    refine lv_iconst (v := 1) hx hb dX3_take_19 (by decide) ?_
    have hfr9 : ∀ q, va_A (W3 k a C n0 M n1 d th) _ q → A q := va_free hD hS hA [0, 1, 2, 3, 4, 5, 6, 7, 8, 9, 10, 11, 12, 13, 14, 15] rfl
    refine y_rwV (w := W3 k a C n0 M n1 d th) (w' := fun (_ : Unit) => W3 k a C n0 M n1 d 1) (As := [.int 1]) (rest := []) ⟨hx, hb, hml, hown, hts⟩ (c_X3_raises l G k a C n0 M n1 d th _ 1 (yD hND rfl) ) (cwV 1 hts gX3_take_X3_raises rfl rfl rfl (by decide +kernel) ⟨Nat.le_of_ble_eq_true rfl, Nat.le_of_ble_eq_true rfl⟩) hK hP (va_recv hK hP (ci := 5) (q0 := 0) rfl rfl) hS hfr9 rfl hl.1 rfl (Nat.le_of_ble_eq_true rfl) dX3_take_20 ⟨Nat.le_of_ble_eq_true rfl, Nat.le_of_ble_eq_true rfl⟩ (fun r u9 H1 locs1 hr9 hP9 hz9 hk9 hS9 => ?_)
    have hP9 : va_P G vwCl (W3 k a C n0 M n1 d 1) H1 := hP9
    have hD9 : va_D A (W3 k a C n0 M n1 d 1) := yD hD rfl
    clear hP hD hS hfr9 hz9 hk9
    have hP := hP9
    have hD := hD9
    have hS := hS9
    clear hP9 hD9 hS9
    subst hr9
    have hPf : va_P G vwCl (W3 k a C n0 ((o_take u q M n1 d).2.2) n1 d ((o_take u q M n1 d).1)) H1 := by unfold o_take; (all_goals try first | rw [if_pos c6] | rw [if_neg c6]); (all_goals try rw [ej]); (all_goals try rw [c47]); exact hP
    exact W.iret (v := 0) hx hb hr (fun τ hτ hW => ⟨⟨_, (), rfl, (by unfold o_take; (all_goals try first | rw [if_pos c6] | rw [if_neg c6]); (all_goals try rw [ej]); (all_goals try rw [c47]); (all_goals try rfl)), yPt hPf hτ⟩, hS.F hτ⟩) hS.2.2 dX3_take_23
  · replace c6 : rg 0 3 u := b2_of1 c6
    refine lv_iload_n hx hb dX3_take_9 rfl (lv_at hl 2 rfl) ?_
    refine lv_iconst (v := 0) hx hb dX3_take_10 (by decide) ?_
    refine lv_iconst (v := 2) hx hb dX3_take_11 (by decide) ?_
    refine y_roS (As := [.int q, .int 0, .int 2]) (rest := []) ⟨hx, hb, hml, hown, hts⟩ (c_X3_in l q 0 2 ) (va_cwS 3 hts gX3_take_X3_in rfl rfl rfl (by decide +kernel) ⟨Nat.le_of_ble_eq_true rfl, Nat.le_of_ble_eq_true rfl⟩) rfl hl.1 rfl (Nat.le_of_ble_eq_true rfl) dX3_take_12 ⟨Nat.le_of_ble_eq_true rfl, Nat.le_of_ble_eq_true rfl⟩ (fun r hr9 => ?_)
    subst hr9
    refine lv_if_ne (tgt := 24) hx hb dX3_take_15 (by decide) (fun c15 => ?_) (fun c15 => ?_)
    · replace c15 : rg 0 2 q := b2_of1 c15
      refine lv_aload_n hx hb dX3_take_24 rfl (lv_at hl 0 rfl) ?_
      refine lv_iload_n hx hb dX3_take_25 rfl (lv_at hl 2 rfl) ?_
      refine lv_iconst (v := 0) hx hb dX3_take_26 (by decide) ?_
      refine y_roV (As := [.int q, .int 0]) (rest := []) ⟨hx, hb, hml, hown, hts⟩ (c_X3_place l G k a C n0 M n1 d th q 0 (by omega)) (cwV 2 hts gX3_take_X3_place rfl rfl rfl (by decide +kernel) ⟨Nat.le_of_ble_eq_true rfl, Nat.le_of_ble_eq_true rfl⟩) hK hP (va_recv hK hP (ci := 5) (q0 := 0) rfl rfl) rfl hl.1 rfl (Nat.le_of_ble_eq_true rfl) dX3_take_27 ⟨Nat.le_of_ble_eq_true rfl, Nat.le_of_ble_eq_true rfl⟩ (fun r hr9 => ?_)
      subst hr9
      refine lv_istore_n (lv' := [(3, .int (oI (plc M q (nI d) 0 n1 n1 0))), (0, .ref (a 0)), (1, .int u), (2, .int q)]) hx hb dX3_take_30 rfl hl (by decide) rfl (fun ls hl => ?_)
      have hcn := cnt_le (fun z => decide (tkn M u z)) n1 0 0
      refine lv_aload_n hx hb dX3_take_31 rfl (lv_at hl 1 rfl) ?_
      refine lv_aload_n hx hb dX3_take_32 rfl (lv_at hl 1 rfl) ?_
      refine lv_iload_n hx hb dX3_take_33 rfl (lv_at hl 2 rfl) ?_
      refine y_roV (As := [.int u]) (rest := [.ref (a 0)]) ⟨hx, hb, hml, hown, hts⟩ (c_X3_taken l G k a C n0 M n1 d th u (by omega)) (cwV 1 hts gX3_take_X3_taken rfl rfl rfl (by decide +kernel) ⟨Nat.le_of_ble_eq_true rfl, Nat.le_of_ble_eq_true rfl⟩) hK hP (va_recv hK hP (ci := 5) (q0 := 0) rfl rfl) rfl hl.1 rfl (Nat.le_of_ble_eq_true rfl) dX3_take_34 ⟨Nat.le_of_ble_eq_true rfl, Nat.le_of_ble_eq_true rfl⟩ (fun r hr9 => ?_)
      subst hr9
      refine lv_iconst (v := 2) hx hb dX3_take_37 (by decide) ?_
      refine lv_icmp_ne (tgt := 45) hx hb dX3_take_38 (by decide) (fun c38 => ?_) (fun c38 => ?_)
      · replace c38 : ¬ (cnt (fun z => decide (tkn M u z)) n1 0 0) = 2 := fun h9 => c38 ((nI_eq (a := (cnt (fun z => decide (tkn M u z)) n1 0 0)) (b := 2) (by omega) (by omega)).mpr h9)
        refine lv_iload_n hx hb dX3_take_45 rfl (lv_at hl 0 rfl) ?_
        refine lv_iconst (v := (-1)) hx hb dX3_take_46 (by decide) ?_
        refine lv_icmp_ne (tgt := 54) hx hb dX3_take_47 (by decide) (fun c47 => ?_) (fun c47 => ?_)
        · obtain ⟨j, ej⟩ := oI_some c47
          have hj := plc_lt ej
          rw [ej] at hl
          refine lv_iconst (v := 0) hx hb dX3_take_54 (by decide) ?_
          refine va_put (D := G) (ci := 5) (v := .int 0) (ty := .int) (C := RX3) (T := TX3) (N := 19) hx hb hts hinX3 tyX3 tyX3_ok nmX3 hown hK hP hD hS 0 rfl rfl 18 (by decide) fl57 (fun _ h9 => h9) rfl (by decide +kernel) rfl rfl (Nat.le_of_ble_eq_true rfl) dX3_take_55 (fun H locs hP hD hS => ?_)
          have hP : va_P G vwCl (W3 k a C n0 M n1 d 0) H := hP
          have hD : va_D A (W3 k a C n0 M n1 d 0) := hD
          refine lv_aload_n hx hb dX3_take_58 rfl (lv_at hl 1 rfl) ?_
          refine va_get (D := G) (ci := 5) (v := .int 0) (C := RX3) (T := TX3) (N := 19) hx hb hts hinX3 hown hK hP 0 rfl rfl 18 (by decide) fl57 (fun _ h9 => h9) rfl dX3_take_59 ?_
          refine lv_if_le (tgt := 67) hx hb dX3_take_62 (by decide) (fun _ => ?_) (fun c9 => absurd c9 (by decide))
          refine lv_aload_n hx hb dX3_take_67 rfl (lv_at hl 1 rfl) ?_
          refine va_get (D := G) (ci := 5) (v := .ref (a 13)) (C := RX3) (T := TX3) (N := 19) hx hb hts hinX3 hown hK hP 0 rfl rfl 13 (by decide) fl48 (fun _ h9 => h9) rfl dX3_take_68 ?_
          refine lv_iload_n hx hb dX3_take_71 rfl (lv_at hl 0 rfl) ?_
          refine lv_bipush (v := 116) hx hb dX3_take_72 (by decide) ?_
          refine y_cast (ws' := W3 k a C n0 (w2 M 5 j 116) n1 d 0) (j := j) (x := 116) hx hb hK hP hD hS 13 2 rfl rfl (by omega) hsz1 (by decide) rfl dX3_take_74 (fun H locs hP hD hS => ?_)
          refine lv_aload_n hx hb dX3_take_75 rfl (lv_at hl 1 rfl) ?_
          refine va_get (D := G) (ci := 5) (v := .ref (a 14)) (C := RX3) (T := TX3) (N := 19) hx hb hts hinX3 hown hK hP 0 rfl rfl 14 (by decide) fl51 (fun _ h9 => h9) rfl dX3_take_76 ?_
          refine lv_iload_n hx hb dX3_take_79 rfl (lv_at hl 0 rfl) ?_
          refine lv_iload_n hx hb dX3_take_80 rfl (lv_at hl 2 rfl) ?_
          refine y_iast (ws' := W3 k a C n0 (w2 (w2 M 5 j 116) 8 j u) n1 d 0) (j := j) (x := u) hx hb hK hP hD hS 14 0 rfl rfl (by omega) hsz1 rfl dX3_take_81 (fun H locs hP hD hS => ?_)
          refine lv_aload_n hx hb dX3_take_82 rfl (lv_at hl 1 rfl) ?_
          refine va_get (D := G) (ci := 5) (v := .ref (a 15)) (C := RX3) (T := TX3) (N := 19) hx hb hts hinX3 hown hK hP 0 rfl rfl 15 (by decide) fl54 (fun _ h9 => h9) rfl dX3_take_83 ?_
          refine lv_iload_n hx hb dX3_take_86 rfl (lv_at hl 0 rfl) ?_
          refine lv_aload_n hx hb dX3_take_87 rfl (lv_at hl 1 rfl) ?_
          refine va_get (D := G) (ci := 5) (v := .int (nI d)) (C := RX3) (T := TX3) (N := 19) hx hb hts hinX3 hown hK hP 0 rfl rfl 17 (by decide) fl71 (fun _ h9 => h9) rfl dX3_take_88 ?_
          refine y_iast (ws' := W3 k a C n0 (w2 (w2 (w2 M 5 j 116) 8 j u) 9 j (nI d)) n1 d 0) (j := j) (x := (nI d)) hx hb hK hP hD hS 15 0 rfl rfl (by omega) hsz1 rfl dX3_take_91 (fun H locs hP hD hS => ?_)
          refine lv_iload_n hx hb dX3_take_92 rfl (lv_at hl 0 rfl) ?_
          have hPf : va_P G vwCl (W3 k a C n0 ((o_take u q M n1 d).2.2) n1 d ((o_take u q M n1 d).1)) H := by unfold o_take; (all_goals try first | rw [if_pos c6] | rw [if_neg c6]); (all_goals try first | rw [if_pos c15] | rw [if_neg c15]); (all_goals try first | rw [if_pos c38] | rw [if_neg c38]); (all_goals try first | rw [if_pos c47] | rw [if_neg c47]); (all_goals try rw [ej]); (all_goals try rw [c47]); exact hP
          exact W.iret (v := (nI j)) hx hb hr (fun τ hτ hW => ⟨⟨_, (), rfl, (by unfold o_take; (all_goals try first | rw [if_pos c6] | rw [if_neg c6]); (all_goals try first | rw [if_pos c15] | rw [if_neg c15]); (all_goals try first | rw [if_pos c38] | rw [if_neg c38]); (all_goals try first | rw [if_pos c47] | rw [if_neg c47]); (all_goals try rw [ej]); (all_goals try rw [c47]); (all_goals try rfl)), yPt hPf hτ⟩, hS.F hτ⟩) hS.2.2 dX3_take_93
        · replace c47 : plc M q (nI d) 0 n1 n1 0 = none := oI_none (fun z h => by have := plc_lt h; omega) c47
          refine lv_iconst (v := 3) hx hb dX3_take_50 (by decide) ?_
          refine lv_goto (tgt := 55) hx hb dX3_take_51 (by decide) ?_
          refine va_put (D := G) (ci := 5) (v := .int 3) (ty := .int) (C := RX3) (T := TX3) (N := 19) hx hb hts hinX3 tyX3 tyX3_ok nmX3 hown hK hP hD hS 0 rfl rfl 18 (by decide) fl57 (fun _ h9 => h9) rfl (by decide +kernel) rfl rfl (Nat.le_of_ble_eq_true rfl) dX3_take_55 (fun H locs hP hD hS => ?_)
          have hP : va_P G vwCl (W3 k a C n0 M n1 d 3) H := hP
          have hD : va_D A (W3 k a C n0 M n1 d 3) := hD
          refine lv_aload_n hx hb dX3_take_58 rfl (lv_at hl 1 rfl) ?_
          refine va_get (D := G) (ci := 5) (v := .int 3) (C := RX3) (T := TX3) (N := 19) hx hb hts hinX3 hown hK hP 0 rfl rfl 18 (by decide) fl57 (fun _ h9 => h9) rfl dX3_take_59 ?_
          refine lv_if_le (tgt := 67) hx hb dX3_take_62 (by decide) (fun c9 => absurd c9 (by decide)) (fun _ => ?_)
          refine lv_iconst (v := 0) hx hb dX3_take_65 (by decide) ?_
          have hPf : va_P G vwCl (W3 k a C n0 ((o_take u q M n1 d).2.2) n1 d ((o_take u q M n1 d).1)) H := by unfold o_take; (all_goals try first | rw [if_pos c6] | rw [if_neg c6]); (all_goals try first | rw [if_pos c15] | rw [if_neg c15]); (all_goals try first | rw [if_pos c38] | rw [if_neg c38]); (all_goals try first | rw [if_pos c47] | rw [if_neg c47]); (all_goals try rw [ej]); (all_goals try rw [c47]); exact hP
          exact W.iret (v := 0) hx hb hr (fun τ hτ hW => ⟨⟨_, (), rfl, (by unfold o_take; (all_goals try first | rw [if_pos c6] | rw [if_neg c6]); (all_goals try first | rw [if_pos c15] | rw [if_neg c15]); (all_goals try first | rw [if_pos c38] | rw [if_neg c38]); (all_goals try first | rw [if_pos c47] | rw [if_neg c47]); (all_goals try rw [ej]); (all_goals try rw [c47]); (all_goals try rfl)), yPt hPf hτ⟩, hS.F hτ⟩) hS.2.2 dX3_take_66
      · replace c38 : (cnt (fun z => decide (tkn M u z)) n1 0 0) = 2 := (nI_eq (a := (cnt (fun z => decide (tkn M u z)) n1 0 0)) (b := 2) (by omega) (by omega)).mp c38
        refine lv_iconst (v := 2) hx hb dX3_take_41 (by decide) ?_
        refine lv_goto (tgt := 55) hx hb dX3_take_42 (by decide) ?_
        refine va_put (D := G) (ci := 5) (v := .int 2) (ty := .int) (C := RX3) (T := TX3) (N := 19) hx hb hts hinX3 tyX3 tyX3_ok nmX3 hown hK hP hD hS 0 rfl rfl 18 (by decide) fl57 (fun _ h9 => h9) rfl (by decide +kernel) rfl rfl (Nat.le_of_ble_eq_true rfl) dX3_take_55 (fun H locs hP hD hS => ?_)
        have hP : va_P G vwCl (W3 k a C n0 M n1 d 2) H := hP
        have hD : va_D A (W3 k a C n0 M n1 d 2) := hD
        refine lv_aload_n hx hb dX3_take_58 rfl (lv_at hl 1 rfl) ?_
        refine va_get (D := G) (ci := 5) (v := .int 2) (C := RX3) (T := TX3) (N := 19) hx hb hts hinX3 hown hK hP 0 rfl rfl 18 (by decide) fl57 (fun _ h9 => h9) rfl dX3_take_59 ?_
        refine lv_if_le (tgt := 67) hx hb dX3_take_62 (by decide) (fun c9 => absurd c9 (by decide)) (fun _ => ?_)
        refine lv_iconst (v := 0) hx hb dX3_take_65 (by decide) ?_
        have hPf : va_P G vwCl (W3 k a C n0 ((o_take u q M n1 d).2.2) n1 d ((o_take u q M n1 d).1)) H := by unfold o_take; (all_goals try first | rw [if_pos c6] | rw [if_neg c6]); (all_goals try first | rw [if_pos c15] | rw [if_neg c15]); (all_goals try first | rw [if_pos c38] | rw [if_neg c38]); (all_goals try rw [ej]); (all_goals try rw [c47]); exact hP
        exact W.iret (v := 0) hx hb hr (fun τ hτ hW => ⟨⟨_, (), rfl, (by unfold o_take; (all_goals try first | rw [if_pos c6] | rw [if_neg c6]); (all_goals try first | rw [if_pos c15] | rw [if_neg c15]); (all_goals try first | rw [if_pos c38] | rw [if_neg c38]); (all_goals try rw [ej]); (all_goals try rw [c47]); (all_goals try rfl)), yPt hPf hτ⟩, hS.F hτ⟩) hS.2.2 dX3_take_66
    · replace c15 : ¬ (rg 0 2 q) := b2_of0 c15
      refine lv_aload_n hx hb dX3_take_18 rfl (lv_at hl 0 rfl) ?_
      refine lv_iconst (v := 1) hx hb dX3_take_19 (by decide) ?_
      have hfr9 : ∀ q, va_A (W3 k a C n0 M n1 d th) _ q → A q := va_free hD hS hA [0, 1, 2, 3, 4, 5, 6, 7, 8, 9, 10, 11, 12, 13, 14, 15] rfl
      refine y_rwV (w := W3 k a C n0 M n1 d th) (w' := fun (_ : Unit) => W3 k a C n0 M n1 d 1) (As := [.int 1]) (rest := []) ⟨hx, hb, hml, hown, hts⟩ (c_X3_raises l G k a C n0 M n1 d th _ 1 (yD hND rfl) ) (cwV 1 hts gX3_take_X3_raises rfl rfl rfl (by decide +kernel) ⟨Nat.le_of_ble_eq_true rfl, Nat.le_of_ble_eq_true rfl⟩) hK hP (va_recv hK hP (ci := 5) (q0 := 0) rfl rfl) hS hfr9 rfl hl.1 rfl (Nat.le_of_ble_eq_true rfl) dX3_take_20 ⟨Nat.le_of_ble_eq_true rfl, Nat.le_of_ble_eq_true rfl⟩ (fun r u9 H1 locs1 hr9 hP9 hz9 hk9 hS9 => ?_)
      have hP9 : va_P G vwCl (W3 k a C n0 M n1 d 1) H1 := hP9
      have hD9 : va_D A (W3 k a C n0 M n1 d 1) := yD hD rfl
      clear hP hD hS hfr9 hz9 hk9
      have hP := hP9
      have hD := hD9
      have hS := hS9
      clear hP9 hD9 hS9
      subst hr9
      have hPf : va_P G vwCl (W3 k a C n0 ((o_take u q M n1 d).2.2) n1 d ((o_take u q M n1 d).1)) H1 := by unfold o_take; (all_goals try first | rw [if_pos c6] | rw [if_neg c6]); (all_goals try first | rw [if_pos c15] | rw [if_neg c15]); (all_goals try rw [ej]); (all_goals try rw [c47]); exact hP
      exact W.iret (v := 0) hx hb hr (fun τ hτ hW => ⟨⟨_, (), rfl, (by unfold o_take; (all_goals try first | rw [if_pos c6] | rw [if_neg c6]); (all_goals try first | rw [if_pos c15] | rw [if_neg c15]); (all_goals try rw [ej]); (all_goals try rw [c47]); (all_goals try rfl)), yPt hPf hτ⟩, hS.F hτ⟩) hS.2.2 dX3_take_23

set_option maxHeartbeats 4000000 in
set_option maxRecDepth 100000 in
theorem c_X3_finish (l : Launch) (G : va_G) (k : Nat → ClassId) (a : Nat → Nat) (C : Nat → Nat → Int32) (n0 : Nat) (M : Nat → Nat → Int32) (n1 : Nat) (d : Nat) (th : Int32) (sz : Nat) (x : Int32) (hND : va_D (fun _ => True) (W3 k a C n0 M n1 d th)) (hn : n0 ≤ 8) (hn1 : n1 ≤ 80) (hcs : ∀ z, z < n1 → M 5 z = 116 → ∃ q, q < n0 ∧ M 3 z = nI q) (hw : ∀ z, z < n0 → C 4 z = 0 ∨ C 4 z = 1) : Met l yX3_finish wsX3_finish ({ frames := 2, cells := 0, slots := 0, locals := 43 }) (va_Pc [.ref (a 0), .int x] (yBs G (yT k) (W3 k a C n0 M n1 d th) sz)) (va_Qi (fun (r : Int32) (_ : Unit) => r = (o_finish x C M n1).2.1) (fun _ τ => va_P G vwCl (W3 k a ((o_finish x C M n1).2.2.1) n0 ((o_finish x C M n1).2.2.2) n1 d ((o_finish x C M n1).1)) τ.heap) (va_A (W3 k a C n0 M n1 d th) sz)) 0 0 (va_A (W3 k a C n0 M n1 d th) sz) := by
  refine Met.ofW (cc := cX3_finish) (maxL := 4) (ret := (some .boolean)) (by decide) rfl ?_
  intro p e s m args below meth c_ s₁ B hml hv
  obtain ⟨rfl, hsz, hP, hK⟩ := hv
  have hx := B.exec
  have hb := B.bytes
  have hr := B.returns
  have hts := atoms_spec (ws := wsX3_finish) B.pre
  have hown : s.vm.findClass RX3 = some m.cls := findClass_of_methodNamed B.named
  have hlocks := B.notSynchronized
  have hsz0 : (8 : Nat) < 2 ^ 31 := by decide
  have hsz1 : (80 : Nat) < 2 ^ 31 := by decide
  subst hsz
  have hD := hND.self (sz := s.heap.size)
  generalize hAe : va_A (W3 k a C n0 M n1 d th) s.heap.size = A at hD ⊢
  have hA : ∀ q : Nat, s.heap.size ≤ q → A q := fun q h => by rw [← hAe]; exact Or.inr h
  have hS : va_S A s.heap s.heap [] := va_S.rf
  have hinX3 : ∀ w ∈ u_ws RX3 TX3 19, w ∈ wsX3_finish := by decide +kernel
  have fl48 := hts (.fieldLink RX3 48 "DunningDeskModel" "states" "[C") (by decide +kernel)
  have fl57 := hts (.fieldLink RX3 57 "DunningDeskModel" "thrown" "I") (by decide +kernel)
  have fl36 := hts (.fieldLink RX3 36 "DunningDeskModel" "caseOf" "[I") (by decide +kernel)
  have fl32 := hts (.fieldLink RX3 32 "DunningDeskModel" "kinds" "[C") (by decide +kernel)
  have fl9 := hts (.fieldLink RX3 9 "DunningDeskModel" "amounts" "[I") (by decide +kernel)
  have fl39 := hts (.fieldLink RX3 39 "DunningDeskModel" "values" "[I") (by decide +kernel)
  have fl22 := hts (.fieldLink RX3 22 "DunningDeskModel" "waits" "[Z") (by decide +kernel)
  have fl16 := hts (.fieldLink RX3 16 "DunningDeskModel" "letters" "[I") (by decide +kernel)
  have hl := lv_entry [.ref (a 0), .int x] (n := 4) (Nat.le_of_ble_eq_true rfl)
  rw [lg_entry_eq]
  generalize (lg_sl [.ref (a 0), .int x] ++ List.replicate (4 - (lg_sl [.ref (a 0), .int x]).length) Slot.unset).toArray = ls at hl ⊢
  have hl : lv_has ls 4 [(0, .ref (a 0)), (1, .int x)] := hl
  refine lv_aload_n hx hb dX3_finish_0 rfl (lv_at hl 0 rfl) ?_
  refine lv_iload_n hx hb dX3_finish_1 rfl (lv_at hl 1 rfl) ?_
  have hfr9 : ∀ q, va_A (W3 k a C n0 M n1 d th) _ q → A q := va_free hD hS hA [0, 1, 2, 3, 4, 5, 6, 7, 8, 9, 10, 11, 12, 13, 14, 15] rfl
  refine y_rwV (w := W3 k a C n0 M n1 d th) (w' := fun (_ : Unit) => W3 k a C n0 M n1 d (if inR x n1 then 0 else 1)) (As := [.int x]) (rest := []) ⟨hx, hb, hml, hown, hts⟩ (c_X3_noMessage l G k a C n0 M n1 d th _ x (yD hND rfl) (by omega)) (cwV 1 hts gX3_finish_X3_noMessage rfl rfl rfl (by decide +kernel) ⟨Nat.le_of_ble_eq_true rfl, Nat.le_of_ble_eq_true rfl⟩) hK hP (va_recv hK hP (ci := 5) (q0 := 0) rfl rfl) hS hfr9 rfl hl.1 rfl (Nat.le_of_ble_eq_true rfl) dX3_finish_2 ⟨Nat.le_of_ble_eq_true rfl, Nat.le_of_ble_eq_true rfl⟩ (fun r u9 H1 locs1 hr9 hP9 hz9 hk9 hS9 => ?_)
  have hP9 : va_P G vwCl (W3 k a C n0 M n1 d (if inR x n1 then 0 else 1)) H1 := hP9
  have hD9 : va_D A (W3 k a C n0 M n1 d (if inR x n1 then 0 else 1)) := yD hD rfl
  clear hP hD hS hfr9 hz9 hk9
  have hP := hP9
  have hD := hD9
  have hS := hS9
  clear hP9 hD9 hS9
  subst hr9
  refine lv_if_eq (tgt := 10) hx hb dX3_finish_5 (by decide) (fun c5 => ?_) (fun c5 => ?_)
  · replace c5 : inR x n1 := Classical.not_not.mp (b2_of0 c5)
    rw [if_pos c5] at hP hD
    obtain ⟨j, hj, rfl⟩ := inR_of (by omega) c5
    refine lv_aload_n hx hb dX3_finish_10 rfl (lv_at hl 0 rfl) ?_
    refine lv_aload_n hx hb dX3_finish_11 rfl (lv_at hl 0 rfl) ?_
    refine va_get (D := G) (ci := 5) (v := .ref (a 13)) (C := RX3) (T := TX3) (N := 19) hx hb hts hinX3 hown hK hP 0 rfl rfl 13 (by decide) fl48 (fun _ h9 => h9) rfl dX3_finish_12 ?_
    refine lv_iload_n hx hb dX3_finish_15 rfl (lv_at hl 1 rfl) ?_
    refine y_cald hx hb hK hP 13 2 rfl rfl (j := j) (by omega) hsz1 dX3_finish_16 ?_
    refine lv_bipush (v := 116) hx hb dX3_finish_17 (by decide) ?_
    refine lv_icmp_ne (tgt := 26) hx hb dX3_finish_19 (by decide) (fun c19 => ?_) (fun c19 => ?_)
    · skip
      refine lv_iconst (v := 2) hx hb dX3_finish_26 (by decide) ?_
      refine va_put (D := G) (ci := 5) (v := .int 2) (ty := .int) (C := RX3) (T := TX3) (N := 19) hx hb hts hinX3 tyX3 tyX3_ok nmX3 hown hK hP hD hS 0 rfl rfl 18 (by decide) fl57 (fun _ h9 => h9) rfl (by decide +kernel) rfl rfl (Nat.le_of_ble_eq_true rfl) dX3_finish_27 (fun H locs hP hD hS => ?_)
      have hP : va_P G vwCl (W3 k a C n0 M n1 d 2) H := hP
      have hD : va_D A (W3 k a C n0 M n1 d 2) := hD
      refine lv_aload_n hx hb dX3_finish_30 rfl (lv_at hl 0 rfl) ?_
      refine va_get (D := G) (ci := 5) (v := .int 2) (C := RX3) (T := TX3) (N := 19) hx hb hts hinX3 hown hK hP 0 rfl rfl 18 (by decide) fl57 (fun _ h9 => h9) rfl dX3_finish_31 ?_
      refine lv_if_le (tgt := 39) hx hb dX3_finish_34 (by decide) (fun c9 => absurd c9 (by decide)) (fun _ => ?_)
      refine lv_iconst (v := 0) hx hb dX3_finish_37 (by decide) ?_
      have hPf : va_P G vwCl (W3 k a ((o_finish (nI j) C M n1).2.2.1) n0 ((o_finish (nI j) C M n1).2.2.2) n1 d ((o_finish (nI j) C M n1).1)) H := by unfold o_finish; (all_goals try first | rw [if_pos c5] | rw [if_neg c5]); (all_goals try simp only [clI (show j < 80 by omega)]); (all_goals try first | rw [if_pos c19] | rw [if_neg c19]); (all_goals try rw [ec]); (all_goals try simp only [clI (show cc9 < 80 by omega)]); (all_goals try unfold fin3); (all_goals try first | rw [if_pos c62] | rw [if_neg c62]); (all_goals try first | rw [if_pos c123] | rw [if_neg c123]); first | exact hP | (rw [if_pos ⟨Int32.not_le.mp c149, c164⟩]; exact hP) | (rw [if_neg (fun h9 => absurd h9.1 (Int32.not_lt.mpr c149))]; rw [w2_id] at hP; exact hP) | (rw [if_neg (fun h9 => c164 h9.2)]; rw [w2_id] at hP; exact hP)
      exact W.zret (v := 0) hx hb hr (by decide) (fun τ hτ hW => ⟨⟨_, (), rfl, (by unfold o_finish; (all_goals try first | rw [if_pos c5] | rw [if_neg c5]); (all_goals try simp only [clI (show j < 80 by omega)]); (all_goals try first | rw [if_pos c19] | rw [if_neg c19]); (all_goals try rw [ec]); (all_goals try simp only [clI (show cc9 < 80 by omega)]); (all_goals try unfold fin3); (all_goals try first | rw [if_pos c62] | rw [if_neg c62]); (all_goals try first | rw [if_pos c123] | rw [if_neg c123]); first | done | rfl | (show (1 : Int32) = b2 (0 < C 0 cc9 ∧ C 2 cc9 = M 4 j); exact (b2_t (And.intro (Int32.not_le.mp c149) c164)).symm) | exact (b2_t ⟨Int32.not_le.mp c71, Int32.not_le.mp c80⟩).symm | exact (b2_f (fun h9 => absurd h9.1 (Int32.not_lt.mpr c71))).symm | exact (b2_f (fun h9 => absurd h9.2 (Int32.not_lt.mpr c80))).symm | exact (b2_t ⟨Int32.not_le.mp c149, c164⟩).symm | exact (b2_f (fun h9 => absurd h9.1 (Int32.not_lt.mpr c149))).symm | exact (b2_f (fun h9 => c164 h9.2)).symm), yPt hPf hτ⟩, hS.F hτ⟩) hS.2.2 dX3_finish_38
    · skip
      refine lv_iconst (v := 0) hx hb dX3_finish_22 (by decide) ?_
      refine lv_goto (tgt := 27) hx hb dX3_finish_23 (by decide) ?_
      refine va_put (D := G) (ci := 5) (v := .int 0) (ty := .int) (C := RX3) (T := TX3) (N := 19) hx hb hts hinX3 tyX3 tyX3_ok nmX3 hown hK hP hD hS 0 rfl rfl 18 (by decide) fl57 (fun _ h9 => h9) rfl (by decide +kernel) rfl rfl (Nat.le_of_ble_eq_true rfl) dX3_finish_27 (fun H locs hP hD hS => ?_)
      have hP : va_P G vwCl (W3 k a C n0 M n1 d 0) H := hP
      have hD : va_D A (W3 k a C n0 M n1 d 0) := hD
      refine lv_aload_n hx hb dX3_finish_30 rfl (lv_at hl 0 rfl) ?_
      refine va_get (D := G) (ci := 5) (v := .int 0) (C := RX3) (T := TX3) (N := 19) hx hb hts hinX3 hown hK hP 0 rfl rfl 18 (by decide) fl57 (fun _ h9 => h9) rfl dX3_finish_31 ?_
      refine lv_if_le (tgt := 39) hx hb dX3_finish_34 (by decide) (fun _ => ?_) (fun c9 => absurd c9 (by decide))
      refine lv_aload_n hx hb dX3_finish_39 rfl (lv_at hl 0 rfl) ?_
      refine va_get (D := G) (ci := 5) (v := .ref (a 13)) (C := RX3) (T := TX3) (N := 19) hx hb hts hinX3 hown hK hP 0 rfl rfl 13 (by decide) fl48 (fun _ h9 => h9) rfl dX3_finish_40 ?_
      refine lv_iload_n hx hb dX3_finish_43 rfl (lv_at hl 1 rfl) ?_
      refine lv_bipush (v := 100) hx hb dX3_finish_44 (by decide) ?_
      refine y_cast (ws' := W3 k a C n0 (w2 M 5 j 100) n1 d 0) (j := j) (x := 100) hx hb hK hP hD hS 13 2 rfl rfl (by omega) hsz1 (by decide) rfl dX3_finish_46 (fun H locs hP hD hS => ?_)
      refine lv_aload_n hx hb dX3_finish_47 rfl (lv_at hl 0 rfl) ?_
      refine va_get (D := G) (ci := 5) (v := .ref (a 9)) (C := RX3) (T := TX3) (N := 19) hx hb hts hinX3 hown hK hP 0 rfl rfl 9 (by decide) fl36 (fun _ h9 => h9) rfl dX3_finish_48 ?_
      refine lv_iload_n hx hb dX3_finish_51 rfl (lv_at hl 1 rfl) ?_
      refine y_iald hx hb hK hP 9 0 rfl rfl (j := j) (by omega) hsz1 dX3_finish_52 ?_
      refine y_top ((by rw [w2_n (by decide)])) ?_
      refine lv_istore_n (lv' := [(2, .int (M 3 j)), (0, .ref (a 0)), (1, .int (nI j))]) hx hb dX3_finish_53 rfl hl (by decide) rfl (fun ls hl => ?_)
      obtain ⟨cc9, hcc, ec⟩ := hcs j hj c19
      rw [ec] at hl
      refine lv_aload_n hx hb dX3_finish_54 rfl (lv_at hl 1 rfl) ?_
      refine va_get (D := G) (ci := 5) (v := .ref (a 8)) (C := RX3) (T := TX3) (N := 19) hx hb hts hinX3 hown hK hP 0 rfl rfl 8 (by decide) fl32 (fun _ h9 => h9) rfl dX3_finish_55 ?_
      refine lv_iload_n hx hb dX3_finish_58 rfl (lv_at hl 2 rfl) ?_
      refine y_cald hx hb hK hP 8 2 rfl rfl (j := j) (by omega) hsz1 dX3_finish_59 ?_
      refine y_top ((by rw [w2_n (by decide)])) ?_
      refine lv_bipush (v := 112) hx hb dX3_finish_60 (by decide) ?_
      refine lv_icmp_ne (tgt := 115) hx hb dX3_finish_62 (by decide) (fun c62 => ?_) (fun c62 => ?_)
      · skip
        refine lv_aload_n hx hb dX3_finish_115 rfl (lv_at hl 1 rfl) ?_
        refine va_get (D := G) (ci := 5) (v := .ref (a 8)) (C := RX3) (T := TX3) (N := 19) hx hb hts hinX3 hown hK hP 0 rfl rfl 8 (by decide) fl32 (fun _ h9 => h9) rfl dX3_finish_116 ?_
        refine lv_iload_n hx hb dX3_finish_119 rfl (lv_at hl 2 rfl) ?_
        refine y_cald hx hb hK hP 8 2 rfl rfl (j := j) (by omega) hsz1 dX3_finish_120 ?_
        refine y_top ((by rw [w2_n (by decide)])) ?_
        refine lv_bipush (v := 110) hx hb dX3_finish_121 (by decide) ?_
        refine lv_icmp_ne (tgt := 143) hx hb dX3_finish_123 (by decide) (fun c123 => ?_) (fun c123 => ?_)
        · skip
          refine lv_aload_n hx hb dX3_finish_143 rfl (lv_at hl 1 rfl) ?_
          refine va_get (D := G) (ci := 5) (v := .ref (a 1)) (C := RX3) (T := TX3) (N := 19) hx hb hts hinX3 hown hK hP 0 rfl rfl 0 (by decide) fl9 (fun _ h9 => h9) rfl dX3_finish_144 ?_
          refine lv_iload_n hx hb dX3_finish_147 rfl (lv_at hl 0 rfl) ?_
          refine y_iald hx hb hK hP 1 0 rfl rfl (j := cc9) (by omega) hsz0 dX3_finish_148 ?_
          refine lv_if_le (tgt := 171) hx hb dX3_finish_149 (by decide) (fun c149 => ?_) (fun c149 => ?_)
          · skip
            refine lv_iconst (v := 0) hx hb dX3_finish_171 (by decide) ?_
            refine lv_istore_n (lv' := [(3, .int 0), (2, .int (nI cc9)), (0, .ref (a 0)), (1, .int (nI j))]) hx hb dX3_finish_172 rfl hl (by decide) rfl (fun ls hl => ?_)
            refine lv_aload_n hx hb dX3_finish_173 rfl (lv_at hl 2 rfl) ?_
            refine va_get (D := G) (ci := 5) (v := .ref (a 3)) (C := RX3) (T := TX3) (N := 19) hx hb hts hinX3 hown hK hP 0 rfl rfl 2 (by decide) fl16 (fun _ h9 => h9) rfl dX3_finish_174 ?_
            refine lv_iload_n hx hb dX3_finish_177 rfl (lv_at hl 1 rfl) ?_
            refine lv_dup2_11 hx hb dX3_finish_178 rfl rfl ?_
            refine y_iald hx hb hK hP 3 0 rfl rfl (j := cc9) (by omega) hsz0 dX3_finish_179 ?_
            refine lv_iload_n hx hb dX3_finish_180 rfl (lv_at hl 0 rfl) ?_
            refine lv_if_eq (tgt := 188) hx hb dX3_finish_181 (by decide) (fun _ => ?_) (fun c9 => absurd c9 (by decide))
            refine lv_iconst (v := 0) hx hb dX3_finish_188 (by decide) ?_
            refine lv_iadd hx hb dX3_finish_189 ?_
            refine y_top (y_add0 _) ?_
            refine y_iast (ws' := W3 k a (w2 C 2 cc9 (C 2 cc9)) n0 (w2 M 5 j 100) n1 d 0) (j := cc9) (x := (C 2 cc9)) hx hb hK hP hD hS 3 0 rfl rfl (by omega) hsz0 rfl dX3_finish_190 (fun H locs hP hD hS => ?_)
            refine lv_iload_n hx hb dX3_finish_191 rfl (lv_at hl 0 rfl) ?_
            have hPf : va_P G vwCl (W3 k a ((o_finish (nI j) C M n1).2.2.1) n0 ((o_finish (nI j) C M n1).2.2.2) n1 d ((o_finish (nI j) C M n1).1)) H := by unfold o_finish; (all_goals try first | rw [if_pos c5] | rw [if_neg c5]); (all_goals try simp only [clI (show j < 80 by omega)]); (all_goals try first | rw [if_pos c19] | rw [if_neg c19]); (all_goals try rw [ec]); (all_goals try simp only [clI (show cc9 < 80 by omega)]); (all_goals try unfold fin3); (all_goals try first | rw [if_pos c62] | rw [if_neg c62]); (all_goals try first | rw [if_pos c123] | rw [if_neg c123]); first | exact hP | (rw [if_pos ⟨Int32.not_le.mp c149, c164⟩]; exact hP) | (rw [if_neg (fun h9 => absurd h9.1 (Int32.not_lt.mpr c149))]; rw [w2_id] at hP; exact hP) | (rw [if_neg (fun h9 => c164 h9.2)]; rw [w2_id] at hP; exact hP)
            exact W.zret (v := 0) hx hb hr (by first | decide | exact b2_n9 (hw cc9 hcc)) (fun τ hτ hW => ⟨⟨_, (), rfl, (by unfold o_finish; (all_goals try first | rw [if_pos c5] | rw [if_neg c5]); (all_goals try simp only [clI (show j < 80 by omega)]); (all_goals try first | rw [if_pos c19] | rw [if_neg c19]); (all_goals try rw [ec]); (all_goals try simp only [clI (show cc9 < 80 by omega)]); (all_goals try unfold fin3); (all_goals try first | rw [if_pos c62] | rw [if_neg c62]); (all_goals try first | rw [if_pos c123] | rw [if_neg c123]); first | done | rfl | (show (1 : Int32) = b2 (0 < C 0 cc9 ∧ C 2 cc9 = M 4 j); exact (b2_t (And.intro (Int32.not_le.mp c149) c164)).symm) | exact (b2_t ⟨Int32.not_le.mp c71, Int32.not_le.mp c80⟩).symm | exact (b2_f (fun h9 => absurd h9.1 (Int32.not_lt.mpr c71))).symm | exact (b2_f (fun h9 => absurd h9.2 (Int32.not_lt.mpr c80))).symm | exact (b2_t ⟨Int32.not_le.mp c149, c164⟩).symm | exact (b2_f (fun h9 => absurd h9.1 (Int32.not_lt.mpr c149))).symm | exact (b2_f (fun h9 => c164 h9.2)).symm), yPt hPf hτ⟩, hS.F hτ⟩) hS.2.2 dX3_finish_192
          · skip
            refine lv_aload_n hx hb dX3_finish_152 rfl (lv_at hl 1 rfl) ?_
            refine va_get (D := G) (ci := 5) (v := .ref (a 3)) (C := RX3) (T := TX3) (N := 19) hx hb hts hinX3 hown hK hP 0 rfl rfl 2 (by decide) fl16 (fun _ h9 => h9) rfl dX3_finish_153 ?_
            refine lv_iload_n hx hb dX3_finish_156 rfl (lv_at hl 0 rfl) ?_
            refine y_iald hx hb hK hP 3 0 rfl rfl (j := cc9) (by omega) hsz0 dX3_finish_157 ?_
            refine lv_aload_n hx hb dX3_finish_158 rfl (lv_at hl 1 rfl) ?_
            refine va_get (D := G) (ci := 5) (v := .ref (a 10)) (C := RX3) (T := TX3) (N := 19) hx hb hts hinX3 hown hK hP 0 rfl rfl 10 (by decide) fl39 (fun _ h9 => h9) rfl dX3_finish_159 ?_
            refine lv_iload_n hx hb dX3_finish_162 rfl (lv_at hl 2 rfl) ?_
            refine y_iald hx hb hK hP 10 0 rfl rfl (j := j) (by omega) hsz1 dX3_finish_163 ?_
            refine y_top ((by rw [w2_n (by decide)])) ?_
            refine lv_icmp_ne (tgt := 171) hx hb dX3_finish_164 (by decide) (fun c164 => ?_) (fun c164 => ?_)
            · skip
              refine lv_iconst (v := 0) hx hb dX3_finish_171 (by decide) ?_
              refine lv_istore_n (lv' := [(3, .int 0), (2, .int (nI cc9)), (0, .ref (a 0)), (1, .int (nI j))]) hx hb dX3_finish_172 rfl hl (by decide) rfl (fun ls hl => ?_)
              refine lv_aload_n hx hb dX3_finish_173 rfl (lv_at hl 2 rfl) ?_
              refine va_get (D := G) (ci := 5) (v := .ref (a 3)) (C := RX3) (T := TX3) (N := 19) hx hb hts hinX3 hown hK hP 0 rfl rfl 2 (by decide) fl16 (fun _ h9 => h9) rfl dX3_finish_174 ?_
              refine lv_iload_n hx hb dX3_finish_177 rfl (lv_at hl 1 rfl) ?_
              refine lv_dup2_11 hx hb dX3_finish_178 rfl rfl ?_
              refine y_iald hx hb hK hP 3 0 rfl rfl (j := cc9) (by omega) hsz0 dX3_finish_179 ?_
              refine lv_iload_n hx hb dX3_finish_180 rfl (lv_at hl 0 rfl) ?_
              refine lv_if_eq (tgt := 188) hx hb dX3_finish_181 (by decide) (fun _ => ?_) (fun c9 => absurd c9 (by decide))
              refine lv_iconst (v := 0) hx hb dX3_finish_188 (by decide) ?_
              refine lv_iadd hx hb dX3_finish_189 ?_
              refine y_top (y_add0 _) ?_
              refine y_iast (ws' := W3 k a (w2 C 2 cc9 (C 2 cc9)) n0 (w2 M 5 j 100) n1 d 0) (j := cc9) (x := (C 2 cc9)) hx hb hK hP hD hS 3 0 rfl rfl (by omega) hsz0 rfl dX3_finish_190 (fun H locs hP hD hS => ?_)
              refine lv_iload_n hx hb dX3_finish_191 rfl (lv_at hl 0 rfl) ?_
              have hPf : va_P G vwCl (W3 k a ((o_finish (nI j) C M n1).2.2.1) n0 ((o_finish (nI j) C M n1).2.2.2) n1 d ((o_finish (nI j) C M n1).1)) H := by unfold o_finish; (all_goals try first | rw [if_pos c5] | rw [if_neg c5]); (all_goals try simp only [clI (show j < 80 by omega)]); (all_goals try first | rw [if_pos c19] | rw [if_neg c19]); (all_goals try rw [ec]); (all_goals try simp only [clI (show cc9 < 80 by omega)]); (all_goals try unfold fin3); (all_goals try first | rw [if_pos c62] | rw [if_neg c62]); (all_goals try first | rw [if_pos c123] | rw [if_neg c123]); first | exact hP | (rw [if_pos ⟨Int32.not_le.mp c149, c164⟩]; exact hP) | (rw [if_neg (fun h9 => absurd h9.1 (Int32.not_lt.mpr c149))]; rw [w2_id] at hP; exact hP) | (rw [if_neg (fun h9 => c164 h9.2)]; rw [w2_id] at hP; exact hP)
              exact W.zret (v := 0) hx hb hr (by first | decide | exact b2_n9 (hw cc9 hcc)) (fun τ hτ hW => ⟨⟨_, (), rfl, (by unfold o_finish; (all_goals try first | rw [if_pos c5] | rw [if_neg c5]); (all_goals try simp only [clI (show j < 80 by omega)]); (all_goals try first | rw [if_pos c19] | rw [if_neg c19]); (all_goals try rw [ec]); (all_goals try simp only [clI (show cc9 < 80 by omega)]); (all_goals try unfold fin3); (all_goals try first | rw [if_pos c62] | rw [if_neg c62]); (all_goals try first | rw [if_pos c123] | rw [if_neg c123]); first | done | rfl | (show (1 : Int32) = b2 (0 < C 0 cc9 ∧ C 2 cc9 = M 4 j); exact (b2_t (And.intro (Int32.not_le.mp c149) c164)).symm) | exact (b2_t ⟨Int32.not_le.mp c71, Int32.not_le.mp c80⟩).symm | exact (b2_f (fun h9 => absurd h9.1 (Int32.not_lt.mpr c71))).symm | exact (b2_f (fun h9 => absurd h9.2 (Int32.not_lt.mpr c80))).symm | exact (b2_t ⟨Int32.not_le.mp c149, c164⟩).symm | exact (b2_f (fun h9 => absurd h9.1 (Int32.not_lt.mpr c149))).symm | exact (b2_f (fun h9 => c164 h9.2)).symm), yPt hPf hτ⟩, hS.F hτ⟩) hS.2.2 dX3_finish_192
            · skip
              refine lv_iconst (v := 1) hx hb dX3_finish_167 (by decide) ?_
              refine lv_goto (tgt := 172) hx hb dX3_finish_168 (by decide) ?_
              refine lv_istore_n (lv' := [(3, .int 1), (2, .int (nI cc9)), (0, .ref (a 0)), (1, .int (nI j))]) hx hb dX3_finish_172 rfl hl (by decide) rfl (fun ls hl => ?_)
              refine lv_aload_n hx hb dX3_finish_173 rfl (lv_at hl 2 rfl) ?_
              refine va_get (D := G) (ci := 5) (v := .ref (a 3)) (C := RX3) (T := TX3) (N := 19) hx hb hts hinX3 hown hK hP 0 rfl rfl 2 (by decide) fl16 (fun _ h9 => h9) rfl dX3_finish_174 ?_
              refine lv_iload_n hx hb dX3_finish_177 rfl (lv_at hl 1 rfl) ?_
              refine lv_dup2_11 hx hb dX3_finish_178 rfl rfl ?_
              refine y_iald hx hb hK hP 3 0 rfl rfl (j := cc9) (by omega) hsz0 dX3_finish_179 ?_
              refine lv_iload_n hx hb dX3_finish_180 rfl (lv_at hl 0 rfl) ?_
              refine lv_if_eq (tgt := 188) hx hb dX3_finish_181 (by decide) (fun c9 => absurd c9 (by decide)) (fun _ => ?_)
              refine lv_iconst (v := 1) hx hb dX3_finish_184 (by decide) ?_
              refine lv_goto (tgt := 189) hx hb dX3_finish_185 (by decide) ?_
              refine lv_iadd hx hb dX3_finish_189 ?_
              refine y_iast (ws' := W3 k a (w2 C 2 cc9 ((C 2 cc9) + 1)) n0 (w2 M 5 j 100) n1 d 0) (j := cc9) (x := ((C 2 cc9) + 1)) hx hb hK hP hD hS 3 0 rfl rfl (by omega) hsz0 rfl dX3_finish_190 (fun H locs hP hD hS => ?_)
              refine lv_iload_n hx hb dX3_finish_191 rfl (lv_at hl 0 rfl) ?_
              have hPf : va_P G vwCl (W3 k a ((o_finish (nI j) C M n1).2.2.1) n0 ((o_finish (nI j) C M n1).2.2.2) n1 d ((o_finish (nI j) C M n1).1)) H := by unfold o_finish; (all_goals try first | rw [if_pos c5] | rw [if_neg c5]); (all_goals try simp only [clI (show j < 80 by omega)]); (all_goals try first | rw [if_pos c19] | rw [if_neg c19]); (all_goals try rw [ec]); (all_goals try simp only [clI (show cc9 < 80 by omega)]); (all_goals try unfold fin3); (all_goals try first | rw [if_pos c62] | rw [if_neg c62]); (all_goals try first | rw [if_pos c123] | rw [if_neg c123]); first | exact hP | (rw [if_pos ⟨Int32.not_le.mp c149, c164⟩]; exact hP) | (rw [if_neg (fun h9 => absurd h9.1 (Int32.not_lt.mpr c149))]; rw [w2_id] at hP; exact hP) | (rw [if_neg (fun h9 => c164 h9.2)]; rw [w2_id] at hP; exact hP)
              exact W.zret (v := 1) hx hb hr (by first | decide | exact b2_n9 (hw cc9 hcc)) (fun τ hτ hW => ⟨⟨_, (), rfl, (by unfold o_finish; (all_goals try first | rw [if_pos c5] | rw [if_neg c5]); (all_goals try simp only [clI (show j < 80 by omega)]); (all_goals try first | rw [if_pos c19] | rw [if_neg c19]); (all_goals try rw [ec]); (all_goals try simp only [clI (show cc9 < 80 by omega)]); (all_goals try unfold fin3); (all_goals try first | rw [if_pos c62] | rw [if_neg c62]); (all_goals try first | rw [if_pos c123] | rw [if_neg c123]); first | done | rfl | (show (1 : Int32) = b2 (0 < C 0 cc9 ∧ C 2 cc9 = M 4 j); exact (b2_t (And.intro (Int32.not_le.mp c149) c164)).symm) | exact (b2_t ⟨Int32.not_le.mp c71, Int32.not_le.mp c80⟩).symm | exact (b2_f (fun h9 => absurd h9.1 (Int32.not_lt.mpr c71))).symm | exact (b2_f (fun h9 => absurd h9.2 (Int32.not_lt.mpr c80))).symm | exact (b2_t ⟨Int32.not_le.mp c149, c164⟩).symm | exact (b2_f (fun h9 => absurd h9.1 (Int32.not_lt.mpr c149))).symm | exact (b2_f (fun h9 => c164 h9.2)).symm), yPt hPf hτ⟩, hS.F hτ⟩) hS.2.2 dX3_finish_192
        · skip
          refine lv_aload_n hx hb dX3_finish_126 rfl (lv_at hl 1 rfl) ?_
          refine va_get (D := G) (ci := 5) (v := .ref (a 5)) (C := RX3) (T := TX3) (N := 19) hx hb hts hinX3 hown hK hP 0 rfl rfl 4 (by decide) fl22 (fun _ h9 => h9) rfl dX3_finish_127 ?_
          refine lv_iload_n hx hb dX3_finish_130 rfl (lv_at hl 0 rfl) ?_
          refine y_zald hx hb hK hP 5 1 rfl rfl (j := cc9) (by omega) hsz0 dX3_finish_131 ?_
          refine lv_istore_n (lv' := [(3, .int (C 4 cc9)), (2, .int (nI cc9)), (0, .ref (a 0)), (1, .int (nI j))]) hx hb dX3_finish_132 rfl hl (by decide) rfl (fun ls hl => ?_)
          refine lv_aload_n hx hb dX3_finish_133 rfl (lv_at hl 2 rfl) ?_
          refine va_get (D := G) (ci := 5) (v := .ref (a 5)) (C := RX3) (T := TX3) (N := 19) hx hb hts hinX3 hown hK hP 0 rfl rfl 4 (by decide) fl22 (fun _ h9 => h9) rfl dX3_finish_134 ?_
          refine lv_iload_n hx hb dX3_finish_137 rfl (lv_at hl 1 rfl) ?_
          refine lv_iconst (v := 0) hx hb dX3_finish_138 (by decide) ?_
          refine y_zast (ws' := W3 k a (w2 C 4 cc9 0) n0 (w2 M 5 j 100) n1 d 0) (j := cc9) (x := 0) hx hb hK hP hD hS 5 1 rfl rfl (by omega) hsz0 (by decide) rfl dX3_finish_139 (fun H locs hP hD hS => ?_)
          refine lv_goto (tgt := 191) hx hb dX3_finish_140 (by decide) ?_
          refine lv_iload_n hx hb dX3_finish_191 rfl (lv_at hl 0 rfl) ?_
          have hPf : va_P G vwCl (W3 k a ((o_finish (nI j) C M n1).2.2.1) n0 ((o_finish (nI j) C M n1).2.2.2) n1 d ((o_finish (nI j) C M n1).1)) H := by unfold o_finish; (all_goals try first | rw [if_pos c5] | rw [if_neg c5]); (all_goals try simp only [clI (show j < 80 by omega)]); (all_goals try first | rw [if_pos c19] | rw [if_neg c19]); (all_goals try rw [ec]); (all_goals try simp only [clI (show cc9 < 80 by omega)]); (all_goals try unfold fin3); (all_goals try first | rw [if_pos c62] | rw [if_neg c62]); (all_goals try first | rw [if_pos c123] | rw [if_neg c123]); first | exact hP | (rw [if_pos ⟨Int32.not_le.mp c149, c164⟩]; exact hP) | (rw [if_neg (fun h9 => absurd h9.1 (Int32.not_lt.mpr c149))]; rw [w2_id] at hP; exact hP) | (rw [if_neg (fun h9 => c164 h9.2)]; rw [w2_id] at hP; exact hP)
          exact W.zret (v := (C 4 cc9)) hx hb hr (by first | decide | exact b2_n9 (hw cc9 hcc)) (fun τ hτ hW => ⟨⟨_, (), rfl, (by unfold o_finish; (all_goals try first | rw [if_pos c5] | rw [if_neg c5]); (all_goals try simp only [clI (show j < 80 by omega)]); (all_goals try first | rw [if_pos c19] | rw [if_neg c19]); (all_goals try rw [ec]); (all_goals try simp only [clI (show cc9 < 80 by omega)]); (all_goals try unfold fin3); (all_goals try first | rw [if_pos c62] | rw [if_neg c62]); (all_goals try first | rw [if_pos c123] | rw [if_neg c123]); first | done | rfl | (show (1 : Int32) = b2 (0 < C 0 cc9 ∧ C 2 cc9 = M 4 j); exact (b2_t (And.intro (Int32.not_le.mp c149) c164)).symm) | exact (b2_t ⟨Int32.not_le.mp c71, Int32.not_le.mp c80⟩).symm | exact (b2_f (fun h9 => absurd h9.1 (Int32.not_lt.mpr c71))).symm | exact (b2_f (fun h9 => absurd h9.2 (Int32.not_lt.mpr c80))).symm | exact (b2_t ⟨Int32.not_le.mp c149, c164⟩).symm | exact (b2_f (fun h9 => absurd h9.1 (Int32.not_lt.mpr c149))).symm | exact (b2_f (fun h9 => c164 h9.2)).symm), yPt hPf hτ⟩, hS.F hτ⟩) hS.2.2 dX3_finish_192
      · skip
        refine lv_aload_n hx hb dX3_finish_65 rfl (lv_at hl 1 rfl) ?_
        refine va_get (D := G) (ci := 5) (v := .ref (a 1)) (C := RX3) (T := TX3) (N := 19) hx hb hts hinX3 hown hK hP 0 rfl rfl 0 (by decide) fl9 (fun _ h9 => h9) rfl dX3_finish_66 ?_
        refine lv_iload_n hx hb dX3_finish_69 rfl (lv_at hl 0 rfl) ?_
        refine y_iald hx hb hK hP 1 0 rfl rfl (j := cc9) (by omega) hsz0 dX3_finish_70 ?_
        refine lv_if_le (tgt := 87) hx hb dX3_finish_71 (by decide) (fun c71 => ?_) (fun c71 => ?_)
        · skip
          refine lv_iconst (v := 0) hx hb dX3_finish_87 (by decide) ?_
          refine lv_istore_n (lv' := [(3, .int 0), (2, .int (nI cc9)), (0, .ref (a 0)), (1, .int (nI j))]) hx hb dX3_finish_88 rfl hl (by decide) rfl (fun ls hl => ?_)
          refine lv_aload_n hx hb dX3_finish_89 rfl (lv_at hl 2 rfl) ?_
          refine va_get (D := G) (ci := 5) (v := .ref (a 1)) (C := RX3) (T := TX3) (N := 19) hx hb hts hinX3 hown hK hP 0 rfl rfl 0 (by decide) fl9 (fun _ h9 => h9) rfl dX3_finish_90 ?_
          refine lv_iload_n hx hb dX3_finish_93 rfl (lv_at hl 1 rfl) ?_
          refine lv_iconst (v := 0) hx hb dX3_finish_94 (by decide) ?_
          refine lv_aload_n hx hb dX3_finish_95 rfl (lv_at hl 2 rfl) ?_
          refine va_get (D := G) (ci := 5) (v := .ref (a 1)) (C := RX3) (T := TX3) (N := 19) hx hb hts hinX3 hown hK hP 0 rfl rfl 0 (by decide) fl9 (fun _ h9 => h9) rfl dX3_finish_96 ?_
          refine lv_iload_n hx hb dX3_finish_99 rfl (lv_at hl 1 rfl) ?_
          refine y_iald hx hb hK hP 1 0 rfl rfl (j := cc9) (by omega) hsz0 dX3_finish_100 ?_
          refine lv_aload_n hx hb dX3_finish_101 rfl (lv_at hl 2 rfl) ?_
          refine va_get (D := G) (ci := 5) (v := .ref (a 10)) (C := RX3) (T := TX3) (N := 19) hx hb hts hinX3 hown hK hP 0 rfl rfl 10 (by decide) fl39 (fun _ h9 => h9) rfl dX3_finish_102 ?_
          refine lv_iload_n hx hb dX3_finish_105 rfl (lv_at hl 3 rfl) ?_
          refine y_iald hx hb hK hP 10 0 rfl rfl (j := j) (by omega) hsz1 dX3_finish_106 ?_
          refine y_top ((by rw [w2_n (by decide)])) ?_
          refine lv_isub hx hb dX3_finish_107 ?_
          refine va_mmax hx hb (hml.trans hl.1.symm) hown (hts (.methodLink RX3 74 Lib.Math.max.name) (by decide +kernel)) (hts (.static Lib.Math.max.name) (by decide +kernel)) (hts (.initialized "java/lang/Math") (by decide +kernel)) (hts (.code Lib.Math.max.name Lib.Math.max.code 2 (some .int)) (by decide +kernel)) (Nat.le_of_ble_eq_true rfl) (Nat.le_of_ble_eq_true rfl) (Nat.le_of_ble_eq_true rfl) (Nat.le_of_ble_eq_true rfl) dX3_finish_108 ?_
          refine y_top (y := mx 0 ((C 0 cc9) - (M 4 j))) rfl ?_
          refine y_iast (ws' := W3 k a (w2 C 0 cc9 (mx 0 ((C 0 cc9) - (M 4 j)))) n0 (w2 M 5 j 100) n1 d 0) (j := cc9) (x := (mx 0 ((C 0 cc9) - (M 4 j)))) hx hb hK hP hD hS 1 0 rfl rfl (by omega) hsz0 rfl dX3_finish_111 (fun H locs hP hD hS => ?_)
          refine lv_goto (tgt := 191) hx hb dX3_finish_112 (by decide) ?_
          refine lv_iload_n hx hb dX3_finish_191 rfl (lv_at hl 0 rfl) ?_
          have hPf : va_P G vwCl (W3 k a ((o_finish (nI j) C M n1).2.2.1) n0 ((o_finish (nI j) C M n1).2.2.2) n1 d ((o_finish (nI j) C M n1).1)) H := by unfold o_finish; (all_goals try first | rw [if_pos c5] | rw [if_neg c5]); (all_goals try simp only [clI (show j < 80 by omega)]); (all_goals try first | rw [if_pos c19] | rw [if_neg c19]); (all_goals try rw [ec]); (all_goals try simp only [clI (show cc9 < 80 by omega)]); (all_goals try unfold fin3); (all_goals try first | rw [if_pos c62] | rw [if_neg c62]); (all_goals try first | rw [if_pos c123] | rw [if_neg c123]); first | exact hP | (rw [if_pos ⟨Int32.not_le.mp c149, c164⟩]; exact hP) | (rw [if_neg (fun h9 => absurd h9.1 (Int32.not_lt.mpr c149))]; rw [w2_id] at hP; exact hP) | (rw [if_neg (fun h9 => c164 h9.2)]; rw [w2_id] at hP; exact hP)
          exact W.zret (v := 0) hx hb hr (by first | decide | exact b2_n9 (hw cc9 hcc)) (fun τ hτ hW => ⟨⟨_, (), rfl, (by unfold o_finish; (all_goals try first | rw [if_pos c5] | rw [if_neg c5]); (all_goals try simp only [clI (show j < 80 by omega)]); (all_goals try first | rw [if_pos c19] | rw [if_neg c19]); (all_goals try rw [ec]); (all_goals try simp only [clI (show cc9 < 80 by omega)]); (all_goals try unfold fin3); (all_goals try first | rw [if_pos c62] | rw [if_neg c62]); (all_goals try first | rw [if_pos c123] | rw [if_neg c123]); first | done | rfl | (show (1 : Int32) = b2 (0 < C 0 cc9 ∧ C 2 cc9 = M 4 j); exact (b2_t (And.intro (Int32.not_le.mp c149) c164)).symm) | exact (b2_t ⟨Int32.not_le.mp c71, Int32.not_le.mp c80⟩).symm | exact (b2_f (fun h9 => absurd h9.1 (Int32.not_lt.mpr c71))).symm | exact (b2_f (fun h9 => absurd h9.2 (Int32.not_lt.mpr c80))).symm | exact (b2_t ⟨Int32.not_le.mp c149, c164⟩).symm | exact (b2_f (fun h9 => absurd h9.1 (Int32.not_lt.mpr c149))).symm | exact (b2_f (fun h9 => c164 h9.2)).symm), yPt hPf hτ⟩, hS.F hτ⟩) hS.2.2 dX3_finish_192
        · skip
          refine lv_aload_n hx hb dX3_finish_74 rfl (lv_at hl 1 rfl) ?_
          refine va_get (D := G) (ci := 5) (v := .ref (a 10)) (C := RX3) (T := TX3) (N := 19) hx hb hts hinX3 hown hK hP 0 rfl rfl 10 (by decide) fl39 (fun _ h9 => h9) rfl dX3_finish_75 ?_
          refine lv_iload_n hx hb dX3_finish_78 rfl (lv_at hl 2 rfl) ?_
          refine y_iald hx hb hK hP 10 0 rfl rfl (j := j) (by omega) hsz1 dX3_finish_79 ?_
          refine y_top ((by rw [w2_n (by decide)])) ?_
          refine lv_if_le (tgt := 87) hx hb dX3_finish_80 (by decide) (fun c80 => ?_) (fun c80 => ?_)
          · skip
            refine lv_iconst (v := 0) hx hb dX3_finish_87 (by decide) ?_
            refine lv_istore_n (lv' := [(3, .int 0), (2, .int (nI cc9)), (0, .ref (a 0)), (1, .int (nI j))]) hx hb dX3_finish_88 rfl hl (by decide) rfl (fun ls hl => ?_)
            refine lv_aload_n hx hb dX3_finish_89 rfl (lv_at hl 2 rfl) ?_
            refine va_get (D := G) (ci := 5) (v := .ref (a 1)) (C := RX3) (T := TX3) (N := 19) hx hb hts hinX3 hown hK hP 0 rfl rfl 0 (by decide) fl9 (fun _ h9 => h9) rfl dX3_finish_90 ?_
            refine lv_iload_n hx hb dX3_finish_93 rfl (lv_at hl 1 rfl) ?_
            refine lv_iconst (v := 0) hx hb dX3_finish_94 (by decide) ?_
            refine lv_aload_n hx hb dX3_finish_95 rfl (lv_at hl 2 rfl) ?_
            refine va_get (D := G) (ci := 5) (v := .ref (a 1)) (C := RX3) (T := TX3) (N := 19) hx hb hts hinX3 hown hK hP 0 rfl rfl 0 (by decide) fl9 (fun _ h9 => h9) rfl dX3_finish_96 ?_
            refine lv_iload_n hx hb dX3_finish_99 rfl (lv_at hl 1 rfl) ?_
            refine y_iald hx hb hK hP 1 0 rfl rfl (j := cc9) (by omega) hsz0 dX3_finish_100 ?_
            refine lv_aload_n hx hb dX3_finish_101 rfl (lv_at hl 2 rfl) ?_
            refine va_get (D := G) (ci := 5) (v := .ref (a 10)) (C := RX3) (T := TX3) (N := 19) hx hb hts hinX3 hown hK hP 0 rfl rfl 10 (by decide) fl39 (fun _ h9 => h9) rfl dX3_finish_102 ?_
            refine lv_iload_n hx hb dX3_finish_105 rfl (lv_at hl 3 rfl) ?_
            refine y_iald hx hb hK hP 10 0 rfl rfl (j := j) (by omega) hsz1 dX3_finish_106 ?_
            refine y_top ((by rw [w2_n (by decide)])) ?_
            refine lv_isub hx hb dX3_finish_107 ?_
            refine va_mmax hx hb (hml.trans hl.1.symm) hown (hts (.methodLink RX3 74 Lib.Math.max.name) (by decide +kernel)) (hts (.static Lib.Math.max.name) (by decide +kernel)) (hts (.initialized "java/lang/Math") (by decide +kernel)) (hts (.code Lib.Math.max.name Lib.Math.max.code 2 (some .int)) (by decide +kernel)) (Nat.le_of_ble_eq_true rfl) (Nat.le_of_ble_eq_true rfl) (Nat.le_of_ble_eq_true rfl) (Nat.le_of_ble_eq_true rfl) dX3_finish_108 ?_
            refine y_top (y := mx 0 ((C 0 cc9) - (M 4 j))) rfl ?_
            refine y_iast (ws' := W3 k a (w2 C 0 cc9 (mx 0 ((C 0 cc9) - (M 4 j)))) n0 (w2 M 5 j 100) n1 d 0) (j := cc9) (x := (mx 0 ((C 0 cc9) - (M 4 j)))) hx hb hK hP hD hS 1 0 rfl rfl (by omega) hsz0 rfl dX3_finish_111 (fun H locs hP hD hS => ?_)
            refine lv_goto (tgt := 191) hx hb dX3_finish_112 (by decide) ?_
            refine lv_iload_n hx hb dX3_finish_191 rfl (lv_at hl 0 rfl) ?_
            have hPf : va_P G vwCl (W3 k a ((o_finish (nI j) C M n1).2.2.1) n0 ((o_finish (nI j) C M n1).2.2.2) n1 d ((o_finish (nI j) C M n1).1)) H := by unfold o_finish; (all_goals try first | rw [if_pos c5] | rw [if_neg c5]); (all_goals try simp only [clI (show j < 80 by omega)]); (all_goals try first | rw [if_pos c19] | rw [if_neg c19]); (all_goals try rw [ec]); (all_goals try simp only [clI (show cc9 < 80 by omega)]); (all_goals try unfold fin3); (all_goals try first | rw [if_pos c62] | rw [if_neg c62]); (all_goals try first | rw [if_pos c123] | rw [if_neg c123]); first | exact hP | (rw [if_pos ⟨Int32.not_le.mp c149, c164⟩]; exact hP) | (rw [if_neg (fun h9 => absurd h9.1 (Int32.not_lt.mpr c149))]; rw [w2_id] at hP; exact hP) | (rw [if_neg (fun h9 => c164 h9.2)]; rw [w2_id] at hP; exact hP)
            exact W.zret (v := 0) hx hb hr (by first | decide | exact b2_n9 (hw cc9 hcc)) (fun τ hτ hW => ⟨⟨_, (), rfl, (by unfold o_finish; (all_goals try first | rw [if_pos c5] | rw [if_neg c5]); (all_goals try simp only [clI (show j < 80 by omega)]); (all_goals try first | rw [if_pos c19] | rw [if_neg c19]); (all_goals try rw [ec]); (all_goals try simp only [clI (show cc9 < 80 by omega)]); (all_goals try unfold fin3); (all_goals try first | rw [if_pos c62] | rw [if_neg c62]); (all_goals try first | rw [if_pos c123] | rw [if_neg c123]); first | done | rfl | (show (1 : Int32) = b2 (0 < C 0 cc9 ∧ C 2 cc9 = M 4 j); exact (b2_t (And.intro (Int32.not_le.mp c149) c164)).symm) | exact (b2_t ⟨Int32.not_le.mp c71, Int32.not_le.mp c80⟩).symm | exact (b2_f (fun h9 => absurd h9.1 (Int32.not_lt.mpr c71))).symm | exact (b2_f (fun h9 => absurd h9.2 (Int32.not_lt.mpr c80))).symm | exact (b2_t ⟨Int32.not_le.mp c149, c164⟩).symm | exact (b2_f (fun h9 => absurd h9.1 (Int32.not_lt.mpr c149))).symm | exact (b2_f (fun h9 => c164 h9.2)).symm), yPt hPf hτ⟩, hS.F hτ⟩) hS.2.2 dX3_finish_192
          · skip
            refine lv_iconst (v := 1) hx hb dX3_finish_83 (by decide) ?_
            refine lv_goto (tgt := 88) hx hb dX3_finish_84 (by decide) ?_
            refine lv_istore_n (lv' := [(3, .int 1), (2, .int (nI cc9)), (0, .ref (a 0)), (1, .int (nI j))]) hx hb dX3_finish_88 rfl hl (by decide) rfl (fun ls hl => ?_)
            refine lv_aload_n hx hb dX3_finish_89 rfl (lv_at hl 2 rfl) ?_
            refine va_get (D := G) (ci := 5) (v := .ref (a 1)) (C := RX3) (T := TX3) (N := 19) hx hb hts hinX3 hown hK hP 0 rfl rfl 0 (by decide) fl9 (fun _ h9 => h9) rfl dX3_finish_90 ?_
            refine lv_iload_n hx hb dX3_finish_93 rfl (lv_at hl 1 rfl) ?_
            refine lv_iconst (v := 0) hx hb dX3_finish_94 (by decide) ?_
            refine lv_aload_n hx hb dX3_finish_95 rfl (lv_at hl 2 rfl) ?_
            refine va_get (D := G) (ci := 5) (v := .ref (a 1)) (C := RX3) (T := TX3) (N := 19) hx hb hts hinX3 hown hK hP 0 rfl rfl 0 (by decide) fl9 (fun _ h9 => h9) rfl dX3_finish_96 ?_
            refine lv_iload_n hx hb dX3_finish_99 rfl (lv_at hl 1 rfl) ?_
            refine y_iald hx hb hK hP 1 0 rfl rfl (j := cc9) (by omega) hsz0 dX3_finish_100 ?_
            refine lv_aload_n hx hb dX3_finish_101 rfl (lv_at hl 2 rfl) ?_
            refine va_get (D := G) (ci := 5) (v := .ref (a 10)) (C := RX3) (T := TX3) (N := 19) hx hb hts hinX3 hown hK hP 0 rfl rfl 10 (by decide) fl39 (fun _ h9 => h9) rfl dX3_finish_102 ?_
            refine lv_iload_n hx hb dX3_finish_105 rfl (lv_at hl 3 rfl) ?_
            refine y_iald hx hb hK hP 10 0 rfl rfl (j := j) (by omega) hsz1 dX3_finish_106 ?_
            refine y_top ((by rw [w2_n (by decide)])) ?_
            refine lv_isub hx hb dX3_finish_107 ?_
            refine va_mmax hx hb (hml.trans hl.1.symm) hown (hts (.methodLink RX3 74 Lib.Math.max.name) (by decide +kernel)) (hts (.static Lib.Math.max.name) (by decide +kernel)) (hts (.initialized "java/lang/Math") (by decide +kernel)) (hts (.code Lib.Math.max.name Lib.Math.max.code 2 (some .int)) (by decide +kernel)) (Nat.le_of_ble_eq_true rfl) (Nat.le_of_ble_eq_true rfl) (Nat.le_of_ble_eq_true rfl) (Nat.le_of_ble_eq_true rfl) dX3_finish_108 ?_
            refine y_top (y := mx 0 ((C 0 cc9) - (M 4 j))) rfl ?_
            refine y_iast (ws' := W3 k a (w2 C 0 cc9 (mx 0 ((C 0 cc9) - (M 4 j)))) n0 (w2 M 5 j 100) n1 d 0) (j := cc9) (x := (mx 0 ((C 0 cc9) - (M 4 j)))) hx hb hK hP hD hS 1 0 rfl rfl (by omega) hsz0 rfl dX3_finish_111 (fun H locs hP hD hS => ?_)
            refine lv_goto (tgt := 191) hx hb dX3_finish_112 (by decide) ?_
            refine lv_iload_n hx hb dX3_finish_191 rfl (lv_at hl 0 rfl) ?_
            have hPf : va_P G vwCl (W3 k a ((o_finish (nI j) C M n1).2.2.1) n0 ((o_finish (nI j) C M n1).2.2.2) n1 d ((o_finish (nI j) C M n1).1)) H := by unfold o_finish; (all_goals try first | rw [if_pos c5] | rw [if_neg c5]); (all_goals try simp only [clI (show j < 80 by omega)]); (all_goals try first | rw [if_pos c19] | rw [if_neg c19]); (all_goals try rw [ec]); (all_goals try simp only [clI (show cc9 < 80 by omega)]); (all_goals try unfold fin3); (all_goals try first | rw [if_pos c62] | rw [if_neg c62]); (all_goals try first | rw [if_pos c123] | rw [if_neg c123]); first | exact hP | (rw [if_pos ⟨Int32.not_le.mp c149, c164⟩]; exact hP) | (rw [if_neg (fun h9 => absurd h9.1 (Int32.not_lt.mpr c149))]; rw [w2_id] at hP; exact hP) | (rw [if_neg (fun h9 => c164 h9.2)]; rw [w2_id] at hP; exact hP)
            exact W.zret (v := 1) hx hb hr (by first | decide | exact b2_n9 (hw cc9 hcc)) (fun τ hτ hW => ⟨⟨_, (), rfl, (by unfold o_finish; (all_goals try first | rw [if_pos c5] | rw [if_neg c5]); (all_goals try simp only [clI (show j < 80 by omega)]); (all_goals try first | rw [if_pos c19] | rw [if_neg c19]); (all_goals try rw [ec]); (all_goals try simp only [clI (show cc9 < 80 by omega)]); (all_goals try unfold fin3); (all_goals try first | rw [if_pos c62] | rw [if_neg c62]); (all_goals try first | rw [if_pos c123] | rw [if_neg c123]); first | done | rfl | (show (1 : Int32) = b2 (0 < C 0 cc9 ∧ C 2 cc9 = M 4 j); exact (b2_t (And.intro (Int32.not_le.mp c149) c164)).symm) | exact (b2_t ⟨Int32.not_le.mp c71, Int32.not_le.mp c80⟩).symm | exact (b2_f (fun h9 => absurd h9.1 (Int32.not_lt.mpr c71))).symm | exact (b2_f (fun h9 => absurd h9.2 (Int32.not_lt.mpr c80))).symm | exact (b2_t ⟨Int32.not_le.mp c149, c164⟩).symm | exact (b2_f (fun h9 => absurd h9.1 (Int32.not_lt.mpr c149))).symm | exact (b2_f (fun h9 => c164 h9.2)).symm), yPt hPf hτ⟩, hS.F hτ⟩) hS.2.2 dX3_finish_192
  · replace c5 : ¬ inR x n1 := b2_of1 c5
    rw [if_neg c5] at hP hD
    refine lv_iconst (v := 0) hx hb dX3_finish_8 (by decide) ?_
    have hPf : va_P G vwCl (W3 k a ((o_finish x C M n1).2.2.1) n0 ((o_finish x C M n1).2.2.2) n1 d ((o_finish x C M n1).1)) H1 := by unfold o_finish; (all_goals try first | rw [if_pos c5] | rw [if_neg c5]); (all_goals try simp only [clI (show j < 80 by omega)]); (all_goals try first | rw [if_pos c19] | rw [if_neg c19]); (all_goals try rw [ec]); (all_goals try simp only [clI (show cc9 < 80 by omega)]); (all_goals try unfold fin3); (all_goals try first | rw [if_pos c62] | rw [if_neg c62]); (all_goals try first | rw [if_pos c123] | rw [if_neg c123]); first | exact hP | (rw [if_pos ⟨Int32.not_le.mp c149, c164⟩]; exact hP) | (rw [if_neg (fun h9 => absurd h9.1 (Int32.not_lt.mpr c149))]; rw [w2_id] at hP; exact hP) | (rw [if_neg (fun h9 => c164 h9.2)]; rw [w2_id] at hP; exact hP)
    exact W.zret (v := 0) hx hb hr (by decide) (fun τ hτ hW => ⟨⟨_, (), rfl, (by unfold o_finish; (all_goals try first | rw [if_pos c5] | rw [if_neg c5]); (all_goals try simp only [clI (show j < 80 by omega)]); (all_goals try first | rw [if_pos c19] | rw [if_neg c19]); (all_goals try rw [ec]); (all_goals try simp only [clI (show cc9 < 80 by omega)]); (all_goals try unfold fin3); (all_goals try first | rw [if_pos c62] | rw [if_neg c62]); (all_goals try first | rw [if_pos c123] | rw [if_neg c123]); first | done | rfl | (show (1 : Int32) = b2 (0 < C 0 cc9 ∧ C 2 cc9 = M 4 j); exact (b2_t (And.intro (Int32.not_le.mp c149) c164)).symm) | exact (b2_t ⟨Int32.not_le.mp c71, Int32.not_le.mp c80⟩).symm | exact (b2_f (fun h9 => absurd h9.1 (Int32.not_lt.mpr c71))).symm | exact (b2_f (fun h9 => absurd h9.2 (Int32.not_lt.mpr c80))).symm | exact (b2_t ⟨Int32.not_le.mp c149, c164⟩).symm | exact (b2_f (fun h9 => absurd h9.1 (Int32.not_lt.mpr c149))).symm | exact (b2_f (fun h9 => c164 h9.2)).symm), yPt hPf hτ⟩, hS.F hτ⟩) hS.2.2 dX3_finish_9

set_option maxHeartbeats 4000000 in
set_option maxRecDepth 100000 in
theorem c_X3_back (l : Launch) (G : va_G) (k : Nat → ClassId) (a : Nat → Nat) (C : Nat → Nat → Int32) (n0 : Nat) (M : Nat → Nat → Int32) (n1 : Nat) (d : Nat) (th : Int32) (sz : Nat) (i : Nat) (hND : va_D (fun _ => True) (W3 k a C n0 M n1 d th)) (hi : i < 80) : Met l yX3_back wsX3_back ({ frames := 0, cells := 0, slots := 0, locals := 0 }) (va_Pc [.ref (a 0), .int (nI i)] (yBs G (yT k) (W3 k a C n0 M n1 d th) sz)) (va_Qi (fun (r : Int32) (_ : Unit) => r = M 7 i + 1) (fun _ τ => va_P G vwCl (W3 k a C n0 (bk M i (nI d)) n1 d th) τ.heap) (va_A (W3 k a C n0 M n1 d th) sz)) 0 0 (va_A (W3 k a C n0 M n1 d th) sz) := by
  refine Met.ofW (cc := cX3_back) (maxL := 2) (ret := (some .int)) (by decide) rfl ?_
  intro p e s m args below meth c_ s₁ B hml hv
  obtain ⟨rfl, hsz, hP, hK⟩ := hv
  have hx := B.exec
  have hb := B.bytes
  have hr := B.returns
  have hts := atoms_spec (ws := wsX3_back) B.pre
  have hown : s.vm.findClass RX3 = some m.cls := findClass_of_methodNamed B.named
  have hlocks := B.notSynchronized
  have hsz0 : (8 : Nat) < 2 ^ 31 := by decide
  have hsz1 : (80 : Nat) < 2 ^ 31 := by decide
  subst hsz
  have hD := hND.self (sz := s.heap.size)
  generalize hAe : va_A (W3 k a C n0 M n1 d th) s.heap.size = A at hD ⊢
  have hA : ∀ q : Nat, s.heap.size ≤ q → A q := fun q h => by rw [← hAe]; exact Or.inr h
  have hS : va_S A s.heap s.heap [] := va_S.rf
  have hinX3 : ∀ w ∈ u_ws RX3 TX3 19, w ∈ wsX3_back := by decide +kernel
  have fl45 := hts (.fieldLink RX3 45 "DunningDeskModel" "tries" "[I") (by decide +kernel)
  have fl48 := hts (.fieldLink RX3 48 "DunningDeskModel" "states" "[C") (by decide +kernel)
  have fl42 := hts (.fieldLink RX3 42 "DunningDeskModel" "readyOn" "[I") (by decide +kernel)
  have fl71 := hts (.fieldLink RX3 71 "DunningDeskModel" "day" "I") (by decide +kernel)
  have hl := lv_entry [.ref (a 0), .int (nI i)] (n := 2) (Nat.le_of_ble_eq_true rfl)
  rw [lg_entry_eq]
  generalize (lg_sl [.ref (a 0), .int (nI i)] ++ List.replicate (2 - (lg_sl [.ref (a 0), .int (nI i)]).length) Slot.unset).toArray = ls at hl ⊢
  have hl : lv_has ls 2 [(0, .ref (a 0)), (1, .int (nI i))] := hl
  refine lv_aload_n hx hb dX3_back_0 rfl (lv_at hl 0 rfl) ?_
  refine va_get (D := G) (ci := 5) (v := .ref (a 12)) (C := RX3) (T := TX3) (N := 19) hx hb hts hinX3 hown hK hP 0 rfl rfl 12 (by decide) fl45 (fun _ h9 => h9) rfl dX3_back_1 ?_
  refine lv_iload_n hx hb dX3_back_4 rfl (lv_at hl 1 rfl) ?_
  refine lv_dup2_11 hx hb dX3_back_5 rfl rfl ?_
  refine y_iald hx hb hK hP 12 0 rfl rfl (j := i) (by omega) hsz1 dX3_back_6 ?_
  refine lv_iconst (v := 1) hx hb dX3_back_7 (by decide) ?_
  refine lv_iadd hx hb dX3_back_8 ?_
  refine y_iast (ws' := W3 k a C n0 (w2 M 7 i ((M 7 i) + 1)) n1 d th) (j := i) (x := ((M 7 i) + 1)) hx hb hK hP hD hS 12 0 rfl rfl (by omega) hsz1 rfl dX3_back_9 (fun H locs hP hD hS => ?_)
  refine lv_aload_n hx hb dX3_back_10 rfl (lv_at hl 0 rfl) ?_
  refine va_get (D := G) (ci := 5) (v := .ref (a 13)) (C := RX3) (T := TX3) (N := 19) hx hb hts hinX3 hown hK hP 0 rfl rfl 13 (by decide) fl48 (fun _ h9 => h9) rfl dX3_back_11 ?_
  refine lv_iload_n hx hb dX3_back_14 rfl (lv_at hl 1 rfl) ?_
  refine lv_aload_n hx hb dX3_back_15 rfl (lv_at hl 0 rfl) ?_
  refine va_get (D := G) (ci := 5) (v := .ref (a 12)) (C := RX3) (T := TX3) (N := 19) hx hb hts hinX3 hown hK hP 0 rfl rfl 12 (by decide) fl45 (fun _ h9 => h9) rfl dX3_back_16 ?_
  refine lv_iload_n hx hb dX3_back_19 rfl (lv_at hl 1 rfl) ?_
  refine y_iald hx hb hK hP 12 0 rfl rfl (j := i) (by omega) hsz1 dX3_back_20 ?_
  refine y_top ((by rw [w2_k, pk_us])) ?_
  refine lv_iconst (v := 3) hx hb dX3_back_21 (by decide) ?_
  refine lv_icmp_ne (tgt := 30) hx hb dX3_back_22 (by decide) (fun c22 => ?_) (fun c22 => ?_)
  · skip
    refine lv_bipush (v := 119) hx hb dX3_back_30 (by decide) ?_
    refine y_cast (ws' := W3 k a C n0 (w2 (w2 M 7 i ((M 7 i) + 1)) 5 i 119) n1 d th) (j := i) (x := 119) hx hb hK hP hD hS 13 2 rfl rfl (by omega) hsz1 (by decide) rfl dX3_back_32 (fun H locs hP hD hS => ?_)
    refine lv_aload_n hx hb dX3_back_33 rfl (lv_at hl 0 rfl) ?_
    refine va_get (D := G) (ci := 5) (v := .ref (a 11)) (C := RX3) (T := TX3) (N := 19) hx hb hts hinX3 hown hK hP 0 rfl rfl 11 (by decide) fl42 (fun _ h9 => h9) rfl dX3_back_34 ?_
    refine lv_iload_n hx hb dX3_back_37 rfl (lv_at hl 1 rfl) ?_
    refine lv_aload_n hx hb dX3_back_38 rfl (lv_at hl 0 rfl) ?_
    refine va_get (D := G) (ci := 5) (v := .int (nI d)) (C := RX3) (T := TX3) (N := 19) hx hb hts hinX3 hown hK hP 0 rfl rfl 17 (by decide) fl71 (fun _ h9 => h9) rfl dX3_back_39 ?_
    refine lv_iconst (v := 2) hx hb dX3_back_42 (by decide) ?_
    refine lv_aload_n hx hb dX3_back_43 rfl (lv_at hl 0 rfl) ?_
    refine va_get (D := G) (ci := 5) (v := .ref (a 12)) (C := RX3) (T := TX3) (N := 19) hx hb hts hinX3 hown hK hP 0 rfl rfl 12 (by decide) fl45 (fun _ h9 => h9) rfl dX3_back_44 ?_
    refine lv_iload_n hx hb dX3_back_47 rfl (lv_at hl 1 rfl) ?_
    refine y_iald hx hb hK hP 12 0 rfl rfl (j := i) (by omega) hsz1 dX3_back_48 ?_
    refine y_top ((by rw [w2_n (by decide), w2_k, pk_us])) ?_
    refine lv_imul hx hb dX3_back_49 ?_
    refine lv_iadd hx hb dX3_back_50 ?_
    refine y_iast (ws' := W3 k a C n0 (w2 (w2 (w2 M 7 i ((M 7 i) + 1)) 5 i 119) 6 i ((nI d) + (2 * (M 7 i + 1)))) n1 d th) (j := i) (x := ((nI d) + (2 * (M 7 i + 1)))) hx hb hK hP hD hS 11 0 rfl rfl (by omega) hsz1 rfl dX3_back_51 (fun H locs hP hD hS => ?_)
    refine lv_aload_n hx hb dX3_back_52 rfl (lv_at hl 0 rfl) ?_
    refine va_get (D := G) (ci := 5) (v := .ref (a 12)) (C := RX3) (T := TX3) (N := 19) hx hb hts hinX3 hown hK hP 0 rfl rfl 12 (by decide) fl45 (fun _ h9 => h9) rfl dX3_back_53 ?_
    refine lv_iload_n hx hb dX3_back_56 rfl (lv_at hl 1 rfl) ?_
    refine y_iald hx hb hK hP 12 0 rfl rfl (j := i) (by omega) hsz1 dX3_back_57 ?_
    refine y_top ((by rw [w2_n (by decide), w2_n (by decide), w2_k, pk_us])) ?_
    have hPf : va_P G vwCl (W3 k a C n0 (bk M i (nI d)) n1 d th) H := by unfold bk; first | (rw [if_pos c22]; exact hP) | (rw [if_neg c22]; exact hP)
    exact W.iret (v := (M 7 i + 1)) hx hb hr (fun τ hτ hW => ⟨⟨_, (), rfl, (by rfl), yPt hPf hτ⟩, hS.F hτ⟩) hS.2.2 dX3_back_58
  · skip
    refine lv_bipush (v := 120) hx hb dX3_back_25 (by decide) ?_
    refine lv_goto (tgt := 32) hx hb dX3_back_27 (by decide) ?_
    refine y_cast (ws' := W3 k a C n0 (w2 (w2 M 7 i ((M 7 i) + 1)) 5 i 120) n1 d th) (j := i) (x := 120) hx hb hK hP hD hS 13 2 rfl rfl (by omega) hsz1 (by decide) rfl dX3_back_32 (fun H locs hP hD hS => ?_)
    refine lv_aload_n hx hb dX3_back_33 rfl (lv_at hl 0 rfl) ?_
    refine va_get (D := G) (ci := 5) (v := .ref (a 11)) (C := RX3) (T := TX3) (N := 19) hx hb hts hinX3 hown hK hP 0 rfl rfl 11 (by decide) fl42 (fun _ h9 => h9) rfl dX3_back_34 ?_
    refine lv_iload_n hx hb dX3_back_37 rfl (lv_at hl 1 rfl) ?_
    refine lv_aload_n hx hb dX3_back_38 rfl (lv_at hl 0 rfl) ?_
    refine va_get (D := G) (ci := 5) (v := .int (nI d)) (C := RX3) (T := TX3) (N := 19) hx hb hts hinX3 hown hK hP 0 rfl rfl 17 (by decide) fl71 (fun _ h9 => h9) rfl dX3_back_39 ?_
    refine lv_iconst (v := 2) hx hb dX3_back_42 (by decide) ?_
    refine lv_aload_n hx hb dX3_back_43 rfl (lv_at hl 0 rfl) ?_
    refine va_get (D := G) (ci := 5) (v := .ref (a 12)) (C := RX3) (T := TX3) (N := 19) hx hb hts hinX3 hown hK hP 0 rfl rfl 12 (by decide) fl45 (fun _ h9 => h9) rfl dX3_back_44 ?_
    refine lv_iload_n hx hb dX3_back_47 rfl (lv_at hl 1 rfl) ?_
    refine y_iald hx hb hK hP 12 0 rfl rfl (j := i) (by omega) hsz1 dX3_back_48 ?_
    refine y_top ((by rw [w2_n (by decide), w2_k, pk_us])) ?_
    refine lv_imul hx hb dX3_back_49 ?_
    refine lv_iadd hx hb dX3_back_50 ?_
    refine y_iast (ws' := W3 k a C n0 (w2 (w2 (w2 M 7 i ((M 7 i) + 1)) 5 i 120) 6 i ((nI d) + (2 * (M 7 i + 1)))) n1 d th) (j := i) (x := ((nI d) + (2 * (M 7 i + 1)))) hx hb hK hP hD hS 11 0 rfl rfl (by omega) hsz1 rfl dX3_back_51 (fun H locs hP hD hS => ?_)
    refine lv_aload_n hx hb dX3_back_52 rfl (lv_at hl 0 rfl) ?_
    refine va_get (D := G) (ci := 5) (v := .ref (a 12)) (C := RX3) (T := TX3) (N := 19) hx hb hts hinX3 hown hK hP 0 rfl rfl 12 (by decide) fl45 (fun _ h9 => h9) rfl dX3_back_53 ?_
    refine lv_iload_n hx hb dX3_back_56 rfl (lv_at hl 1 rfl) ?_
    refine y_iald hx hb hK hP 12 0 rfl rfl (j := i) (by omega) hsz1 dX3_back_57 ?_
    refine y_top ((by rw [w2_n (by decide), w2_n (by decide), w2_k, pk_us])) ?_
    have hPf : va_P G vwCl (W3 k a C n0 (bk M i (nI d)) n1 d th) H := by unfold bk; first | (rw [if_pos c22]; exact hP) | (rw [if_neg c22]; exact hP)
    exact W.iret (v := (M 7 i + 1)) hx hb hr (fun τ hτ hW => ⟨⟨_, (), rfl, (by rfl), yPt hPf hτ⟩, hS.F hτ⟩) hS.2.2 dX3_back_58

set_option maxHeartbeats 4000000 in
set_option maxRecDepth 100000 in
theorem c_X3_handBack (l : Launch) (G : va_G) (k : Nat → ClassId) (a : Nat → Nat) (C : Nat → Nat → Int32) (n0 : Nat) (M : Nat → Nat → Int32) (n1 : Nat) (d : Nat) (th : Int32) (sz : Nat) (x : Int32) (hND : va_D (fun _ => True) (W3 k a C n0 M n1 d th)) (hn1 : n1 ≤ 80) : Met l yX3_handBack wsX3_handBack ({ frames := 2, cells := 0, slots := 0, locals := 43 }) (va_Pc [.ref (a 0), .int x] (yBs G (yT k) (W3 k a C n0 M n1 d th) sz)) (va_Qi (fun (r : Int32) (_ : Unit) => r = (o_handBack x M n1 d).2.1) (fun _ τ => va_P G vwCl (W3 k a C n0 ((o_handBack x M n1 d).2.2) n1 d ((o_handBack x M n1 d).1)) τ.heap) (va_A (W3 k a C n0 M n1 d th) sz)) 0 0 (va_A (W3 k a C n0 M n1 d th) sz) := by
  refine Met.ofW (cc := cX3_handBack) (maxL := 2) (ret := (some .int)) (by decide) rfl ?_
  intro p e s m args below meth c_ s₁ B hml hv
  obtain ⟨rfl, hsz, hP, hK⟩ := hv
  have hx := B.exec
  have hb := B.bytes
  have hr := B.returns
  have hts := atoms_spec (ws := wsX3_handBack) B.pre
  have hown : s.vm.findClass RX3 = some m.cls := findClass_of_methodNamed B.named
  have hlocks := B.notSynchronized
  have hsz0 : (8 : Nat) < 2 ^ 31 := by decide
  have hsz1 : (80 : Nat) < 2 ^ 31 := by decide
  subst hsz
  have hD := hND.self (sz := s.heap.size)
  generalize hAe : va_A (W3 k a C n0 M n1 d th) s.heap.size = A at hD ⊢
  have hA : ∀ q : Nat, s.heap.size ≤ q → A q := fun q h => by rw [← hAe]; exact Or.inr h
  have hS : va_S A s.heap s.heap [] := va_S.rf
  have hinX3 : ∀ w ∈ u_ws RX3 TX3 19, w ∈ wsX3_handBack := by decide +kernel
  have fl48 := hts (.fieldLink RX3 48 "DunningDeskModel" "states" "[C") (by decide +kernel)
  have fl57 := hts (.fieldLink RX3 57 "DunningDeskModel" "thrown" "I") (by decide +kernel)
  have hl := lv_entry [.ref (a 0), .int x] (n := 2) (Nat.le_of_ble_eq_true rfl)
  rw [lg_entry_eq]
  generalize (lg_sl [.ref (a 0), .int x] ++ List.replicate (2 - (lg_sl [.ref (a 0), .int x]).length) Slot.unset).toArray = ls at hl ⊢
  have hl : lv_has ls 2 [(0, .ref (a 0)), (1, .int x)] := hl
  refine lv_aload_n hx hb dX3_handBack_0 rfl (lv_at hl 0 rfl) ?_
  refine lv_iload_n hx hb dX3_handBack_1 rfl (lv_at hl 1 rfl) ?_
  have hfr9 : ∀ q, va_A (W3 k a C n0 M n1 d th) _ q → A q := va_free hD hS hA [0, 1, 2, 3, 4, 5, 6, 7, 8, 9, 10, 11, 12, 13, 14, 15] rfl
  refine y_rwV (w := W3 k a C n0 M n1 d th) (w' := fun (_ : Unit) => W3 k a C n0 M n1 d (if inR x n1 then 0 else 1)) (As := [.int x]) (rest := []) ⟨hx, hb, hml, hown, hts⟩ (c_X3_noMessage l G k a C n0 M n1 d th _ x (yD hND rfl) (by omega)) (cwV 1 hts gX3_handBack_X3_noMessage rfl rfl rfl (by decide +kernel) ⟨Nat.le_of_ble_eq_true rfl, Nat.le_of_ble_eq_true rfl⟩) hK hP (va_recv hK hP (ci := 5) (q0 := 0) rfl rfl) hS hfr9 rfl hl.1 rfl (Nat.le_of_ble_eq_true rfl) dX3_handBack_2 ⟨Nat.le_of_ble_eq_true rfl, Nat.le_of_ble_eq_true rfl⟩ (fun r u9 H1 locs1 hr9 hP9 hz9 hk9 hS9 => ?_)
  have hP9 : va_P G vwCl (W3 k a C n0 M n1 d (if inR x n1 then 0 else 1)) H1 := hP9
  have hD9 : va_D A (W3 k a C n0 M n1 d (if inR x n1 then 0 else 1)) := yD hD rfl
  clear hP hD hS hfr9 hz9 hk9
  have hP := hP9
  have hD := hD9
  have hS := hS9
  clear hP9 hD9 hS9
  subst hr9
  refine lv_if_eq (tgt := 10) hx hb dX3_handBack_5 (by decide) (fun c5 => ?_) (fun c5 => ?_)
  · replace c5 : inR x n1 := Classical.not_not.mp (b2_of0 c5)
    rw [if_pos c5] at hP hD
    obtain ⟨j, hj, rfl⟩ := inR_of (by omega) c5
    refine lv_aload_n hx hb dX3_handBack_10 rfl (lv_at hl 0 rfl) ?_
    refine lv_aload_n hx hb dX3_handBack_11 rfl (lv_at hl 0 rfl) ?_
    refine va_get (D := G) (ci := 5) (v := .ref (a 13)) (C := RX3) (T := TX3) (N := 19) hx hb hts hinX3 hown hK hP 0 rfl rfl 13 (by decide) fl48 (fun _ h9 => h9) rfl dX3_handBack_12 ?_
    refine lv_iload_n hx hb dX3_handBack_15 rfl (lv_at hl 1 rfl) ?_
    refine y_cald hx hb hK hP 13 2 rfl rfl (j := j) (by omega) hsz1 dX3_handBack_16 ?_
    refine lv_bipush (v := 116) hx hb dX3_handBack_17 (by decide) ?_
    refine lv_icmp_ne (tgt := 26) hx hb dX3_handBack_19 (by decide) (fun c19 => ?_) (fun c19 => ?_)
    · skip
      refine lv_iconst (v := 2) hx hb dX3_handBack_26 (by decide) ?_
      refine va_put (D := G) (ci := 5) (v := .int 2) (ty := .int) (C := RX3) (T := TX3) (N := 19) hx hb hts hinX3 tyX3 tyX3_ok nmX3 hown hK hP hD hS 0 rfl rfl 18 (by decide) fl57 (fun _ h9 => h9) rfl (by decide +kernel) rfl rfl (Nat.le_of_ble_eq_true rfl) dX3_handBack_27 (fun H locs hP hD hS => ?_)
      have hP : va_P G vwCl (W3 k a C n0 M n1 d 2) H := hP
      have hD : va_D A (W3 k a C n0 M n1 d 2) := hD
      refine lv_aload_n hx hb dX3_handBack_30 rfl (lv_at hl 0 rfl) ?_
      refine va_get (D := G) (ci := 5) (v := .int 2) (C := RX3) (T := TX3) (N := 19) hx hb hts hinX3 hown hK hP 0 rfl rfl 18 (by decide) fl57 (fun _ h9 => h9) rfl dX3_handBack_31 ?_
      refine lv_if_le (tgt := 41) hx hb dX3_handBack_34 (by decide) (fun c9 => absurd c9 (by decide)) (fun _ => ?_)
      refine lv_iconst (v := 0) hx hb dX3_handBack_37 (by decide) ?_
      refine lv_goto (tgt := 46) hx hb dX3_handBack_38 (by decide) ?_
      have hPf : va_P G vwCl (W3 k a C n0 ((o_handBack (nI j) M n1 d).2.2) n1 d ((o_handBack (nI j) M n1 d).1)) H := by unfold o_handBack; (all_goals try first | rw [if_pos c5] | rw [if_neg c5]); (all_goals try first | rw [if_pos c19] | rw [if_neg c19]); (all_goals try simp only [clI (show j < 80 by omega)]); (all_goals try first | rw [if_pos c5] | rw [if_neg c5]); (all_goals try first | rw [if_pos c19] | rw [if_neg c19]); exact hP
      exact W.iret (v := 0) hx hb hr (fun τ hτ hW => ⟨⟨_, (), rfl, (by unfold o_handBack; (all_goals try first | rw [if_pos c5] | rw [if_neg c5]); (all_goals try first | rw [if_pos c19] | rw [if_neg c19]); (all_goals try simp only [clI (show j < 80 by omega)]); (all_goals try first | rw [if_pos c5] | rw [if_neg c5]); (all_goals try first | rw [if_pos c19] | rw [if_neg c19]); (all_goals try rfl)), yPt hPf hτ⟩, hS.F hτ⟩) hS.2.2 dX3_handBack_46
    · skip
      refine lv_iconst (v := 0) hx hb dX3_handBack_22 (by decide) ?_
      refine lv_goto (tgt := 27) hx hb dX3_handBack_23 (by decide) ?_
      refine va_put (D := G) (ci := 5) (v := .int 0) (ty := .int) (C := RX3) (T := TX3) (N := 19) hx hb hts hinX3 tyX3 tyX3_ok nmX3 hown hK hP hD hS 0 rfl rfl 18 (by decide) fl57 (fun _ h9 => h9) rfl (by decide +kernel) rfl rfl (Nat.le_of_ble_eq_true rfl) dX3_handBack_27 (fun H locs hP hD hS => ?_)
      have hP : va_P G vwCl (W3 k a C n0 M n1 d 0) H := hP
      have hD : va_D A (W3 k a C n0 M n1 d 0) := hD
      refine lv_aload_n hx hb dX3_handBack_30 rfl (lv_at hl 0 rfl) ?_
      refine va_get (D := G) (ci := 5) (v := .int 0) (C := RX3) (T := TX3) (N := 19) hx hb hts hinX3 hown hK hP 0 rfl rfl 18 (by decide) fl57 (fun _ h9 => h9) rfl dX3_handBack_31 ?_
      refine lv_if_le (tgt := 41) hx hb dX3_handBack_34 (by decide) (fun _ => ?_) (fun c9 => absurd c9 (by decide))
      refine lv_aload_n hx hb dX3_handBack_41 rfl (lv_at hl 0 rfl) ?_
      refine lv_iload_n hx hb dX3_handBack_42 rfl (lv_at hl 1 rfl) ?_
      have hfr9 : ∀ q, va_A (W3 k a C n0 M n1 d 0) _ q → A q := va_free hD hS hA [0, 1, 2, 3, 4, 5, 6, 7, 8, 9, 10, 11, 12, 13, 14, 15] rfl
      refine y_rwV (w := W3 k a C n0 M n1 d 0) (w' := fun (_ : Unit) => W3 k a C n0 (bk M j (nI d)) n1 d 0) (As := [.int (nI j)]) (rest := []) ⟨hx, hb, hml, hown, hts⟩ (c_X3_back l G k a C n0 M n1 d 0 _ j (yD hND rfl) (by omega)) (cwV 1 hts gX3_handBack_X3_back rfl rfl rfl (by decide +kernel) ⟨Nat.le_of_ble_eq_true rfl, Nat.le_of_ble_eq_true rfl⟩) hK hP (va_recv hK hP (ci := 5) (q0 := 0) rfl rfl) hS hfr9 rfl hl.1 rfl (Nat.le_of_ble_eq_true rfl) dX3_handBack_43 ⟨Nat.le_of_ble_eq_true rfl, Nat.le_of_ble_eq_true rfl⟩ (fun r u9 H1 locs1 hr9 hP9 hz9 hk9 hS9 => ?_)
      have hP9 : va_P G vwCl (W3 k a C n0 (bk M j (nI d)) n1 d 0) H1 := hP9
      have hD9 : va_D A (W3 k a C n0 (bk M j (nI d)) n1 d 0) := yD hD rfl
      clear hP hD hS hfr9 hz9 hk9
      have hP := hP9
      have hD := hD9
      have hS := hS9
      clear hP9 hD9 hS9
      subst hr9
      have hPf : va_P G vwCl (W3 k a C n0 ((o_handBack (nI j) M n1 d).2.2) n1 d ((o_handBack (nI j) M n1 d).1)) H1 := by unfold o_handBack; (all_goals try first | rw [if_pos c5] | rw [if_neg c5]); (all_goals try first | rw [if_pos c19] | rw [if_neg c19]); (all_goals try simp only [clI (show j < 80 by omega)]); (all_goals try first | rw [if_pos c5] | rw [if_neg c5]); (all_goals try first | rw [if_pos c19] | rw [if_neg c19]); exact hP
      exact W.iret (v := (M 7 j + 1)) hx hb hr (fun τ hτ hW => ⟨⟨_, (), rfl, (by unfold o_handBack; (all_goals try first | rw [if_pos c5] | rw [if_neg c5]); (all_goals try first | rw [if_pos c19] | rw [if_neg c19]); (all_goals try simp only [clI (show j < 80 by omega)]); (all_goals try first | rw [if_pos c5] | rw [if_neg c5]); (all_goals try first | rw [if_pos c19] | rw [if_neg c19]); (all_goals try rfl)), yPt hPf hτ⟩, hS.F hτ⟩) hS.2.2 dX3_handBack_46
  · replace c5 : ¬ inR x n1 := b2_of1 c5
    rw [if_neg c5] at hP hD
    refine lv_iconst (v := 0) hx hb dX3_handBack_8 (by decide) ?_
    have hPf : va_P G vwCl (W3 k a C n0 ((o_handBack x M n1 d).2.2) n1 d ((o_handBack x M n1 d).1)) H1 := by unfold o_handBack; (all_goals try first | rw [if_pos c5] | rw [if_neg c5]); exact hP
    exact W.iret (v := 0) hx hb hr (fun τ hτ hW => ⟨⟨_, (), rfl, (by unfold o_handBack; (all_goals try first | rw [if_pos c5] | rw [if_neg c5]); (all_goals try rfl)), yPt hPf hτ⟩, hS.F hτ⟩) hS.2.2 dX3_handBack_9

set_option maxHeartbeats 4000000 in
set_option maxRecDepth 100000 in
theorem c_X3_revive (l : Launch) (G : va_G) (k : Nat → ClassId) (a : Nat → Nat) (C : Nat → Nat → Int32) (n0 : Nat) (M : Nat → Nat → Int32) (n1 : Nat) (d : Nat) (th : Int32) (sz : Nat) (x : Int32) (hND : va_D (fun _ => True) (W3 k a C n0 M n1 d th)) (hn1 : n1 ≤ 80) : Met l yX3_revive wsX3_revive ({ frames := 2, cells := 0, slots := 0, locals := 43 }) (va_Pc [.ref (a 0), .int x] (yBs G (yT k) (W3 k a C n0 M n1 d th) sz)) (va_Qi (fun (r : Int32) (_ : Unit) => r = (o_revive x M n1 d).2.1) (fun _ τ => va_P G vwCl (W3 k a C n0 ((o_revive x M n1 d).2.2) n1 d ((o_revive x M n1 d).1)) τ.heap) (va_A (W3 k a C n0 M n1 d th) sz)) 0 0 (va_A (W3 k a C n0 M n1 d th) sz) := by
  refine Met.ofW (cc := cX3_revive) (maxL := 2) (ret := (some .int)) (by decide) rfl ?_
  intro p e s m args below meth c_ s₁ B hml hv
  obtain ⟨rfl, hsz, hP, hK⟩ := hv
  have hx := B.exec
  have hb := B.bytes
  have hr := B.returns
  have hts := atoms_spec (ws := wsX3_revive) B.pre
  have hown : s.vm.findClass RX3 = some m.cls := findClass_of_methodNamed B.named
  have hlocks := B.notSynchronized
  have hsz0 : (8 : Nat) < 2 ^ 31 := by decide
  have hsz1 : (80 : Nat) < 2 ^ 31 := by decide
  subst hsz
  have hD := hND.self (sz := s.heap.size)
  generalize hAe : va_A (W3 k a C n0 M n1 d th) s.heap.size = A at hD ⊢
  have hA : ∀ q : Nat, s.heap.size ≤ q → A q := fun q h => by rw [← hAe]; exact Or.inr h
  have hS : va_S A s.heap s.heap [] := va_S.rf
  have hinX3 : ∀ w ∈ u_ws RX3 TX3 19, w ∈ wsX3_revive := by decide +kernel
  have fl48 := hts (.fieldLink RX3 48 "DunningDeskModel" "states" "[C") (by decide +kernel)
  have fl57 := hts (.fieldLink RX3 57 "DunningDeskModel" "thrown" "I") (by decide +kernel)
  have fl42 := hts (.fieldLink RX3 42 "DunningDeskModel" "readyOn" "[I") (by decide +kernel)
  have fl71 := hts (.fieldLink RX3 71 "DunningDeskModel" "day" "I") (by decide +kernel)
  have fl45 := hts (.fieldLink RX3 45 "DunningDeskModel" "tries" "[I") (by decide +kernel)
  have hl := lv_entry [.ref (a 0), .int x] (n := 2) (Nat.le_of_ble_eq_true rfl)
  rw [lg_entry_eq]
  generalize (lg_sl [.ref (a 0), .int x] ++ List.replicate (2 - (lg_sl [.ref (a 0), .int x]).length) Slot.unset).toArray = ls at hl ⊢
  have hl : lv_has ls 2 [(0, .ref (a 0)), (1, .int x)] := hl
  refine lv_aload_n hx hb dX3_revive_0 rfl (lv_at hl 0 rfl) ?_
  refine lv_iload_n hx hb dX3_revive_1 rfl (lv_at hl 1 rfl) ?_
  have hfr9 : ∀ q, va_A (W3 k a C n0 M n1 d th) _ q → A q := va_free hD hS hA [0, 1, 2, 3, 4, 5, 6, 7, 8, 9, 10, 11, 12, 13, 14, 15] rfl
  refine y_rwV (w := W3 k a C n0 M n1 d th) (w' := fun (_ : Unit) => W3 k a C n0 M n1 d (if inR x n1 then 0 else 1)) (As := [.int x]) (rest := []) ⟨hx, hb, hml, hown, hts⟩ (c_X3_noMessage l G k a C n0 M n1 d th _ x (yD hND rfl) (by omega)) (cwV 1 hts gX3_revive_X3_noMessage rfl rfl rfl (by decide +kernel) ⟨Nat.le_of_ble_eq_true rfl, Nat.le_of_ble_eq_true rfl⟩) hK hP (va_recv hK hP (ci := 5) (q0 := 0) rfl rfl) hS hfr9 rfl hl.1 rfl (Nat.le_of_ble_eq_true rfl) dX3_revive_2 ⟨Nat.le_of_ble_eq_true rfl, Nat.le_of_ble_eq_true rfl⟩ (fun r u9 H1 locs1 hr9 hP9 hz9 hk9 hS9 => ?_)
  have hP9 : va_P G vwCl (W3 k a C n0 M n1 d (if inR x n1 then 0 else 1)) H1 := hP9
  have hD9 : va_D A (W3 k a C n0 M n1 d (if inR x n1 then 0 else 1)) := yD hD rfl
  clear hP hD hS hfr9 hz9 hk9
  have hP := hP9
  have hD := hD9
  have hS := hS9
  clear hP9 hD9 hS9
  subst hr9
  refine lv_if_eq (tgt := 10) hx hb dX3_revive_5 (by decide) (fun c5 => ?_) (fun c5 => ?_)
  · replace c5 : inR x n1 := Classical.not_not.mp (b2_of0 c5)
    rw [if_pos c5] at hP hD
    obtain ⟨j, hj, rfl⟩ := inR_of (by omega) c5
    refine lv_aload_n hx hb dX3_revive_10 rfl (lv_at hl 0 rfl) ?_
    refine lv_aload_n hx hb dX3_revive_11 rfl (lv_at hl 0 rfl) ?_
    refine va_get (D := G) (ci := 5) (v := .ref (a 13)) (C := RX3) (T := TX3) (N := 19) hx hb hts hinX3 hown hK hP 0 rfl rfl 13 (by decide) fl48 (fun _ h9 => h9) rfl dX3_revive_12 ?_
    refine lv_iload_n hx hb dX3_revive_15 rfl (lv_at hl 1 rfl) ?_
    refine y_cald hx hb hK hP 13 2 rfl rfl (j := j) (by omega) hsz1 dX3_revive_16 ?_
    refine lv_bipush (v := 120) hx hb dX3_revive_17 (by decide) ?_
    refine lv_icmp_ne (tgt := 26) hx hb dX3_revive_19 (by decide) (fun c19 => ?_) (fun c19 => ?_)
    · skip
      refine lv_iconst (v := 2) hx hb dX3_revive_26 (by decide) ?_
      refine va_put (D := G) (ci := 5) (v := .int 2) (ty := .int) (C := RX3) (T := TX3) (N := 19) hx hb hts hinX3 tyX3 tyX3_ok nmX3 hown hK hP hD hS 0 rfl rfl 18 (by decide) fl57 (fun _ h9 => h9) rfl (by decide +kernel) rfl rfl (Nat.le_of_ble_eq_true rfl) dX3_revive_27 (fun H locs hP hD hS => ?_)
      have hP : va_P G vwCl (W3 k a C n0 M n1 d 2) H := hP
      have hD : va_D A (W3 k a C n0 M n1 d 2) := hD
      refine lv_aload_n hx hb dX3_revive_30 rfl (lv_at hl 0 rfl) ?_
      refine va_get (D := G) (ci := 5) (v := .int 2) (C := RX3) (T := TX3) (N := 19) hx hb hts hinX3 hown hK hP 0 rfl rfl 18 (by decide) fl57 (fun _ h9 => h9) rfl dX3_revive_31 ?_
      refine lv_if_le (tgt := 39) hx hb dX3_revive_34 (by decide) (fun c9 => absurd c9 (by decide)) (fun _ => ?_)
      refine lv_iconst (v := 0) hx hb dX3_revive_37 (by decide) ?_
      have hPf : va_P G vwCl (W3 k a C n0 ((o_revive (nI j) M n1 d).2.2) n1 d ((o_revive (nI j) M n1 d).1)) H := by unfold o_revive; (all_goals try first | rw [if_pos c5] | rw [if_neg c5]); (all_goals try first | rw [if_pos c19] | rw [if_neg c19]); (all_goals try simp only [clI (show j < 80 by omega)]); (all_goals try first | rw [if_pos c5] | rw [if_neg c5]); (all_goals try first | rw [if_pos c19] | rw [if_neg c19]); exact hP
      exact W.iret (v := 0) hx hb hr (fun τ hτ hW => ⟨⟨_, (), rfl, (by unfold o_revive; (all_goals try first | rw [if_pos c5] | rw [if_neg c5]); (all_goals try first | rw [if_pos c19] | rw [if_neg c19]); (all_goals try simp only [clI (show j < 80 by omega)]); (all_goals try first | rw [if_pos c5] | rw [if_neg c5]); (all_goals try first | rw [if_pos c19] | rw [if_neg c19]); (all_goals try rfl)), yPt hPf hτ⟩, hS.F hτ⟩) hS.2.2 dX3_revive_38
    · skip
      refine lv_iconst (v := 0) hx hb dX3_revive_22 (by decide) ?_
      refine lv_goto (tgt := 27) hx hb dX3_revive_23 (by decide) ?_
      refine va_put (D := G) (ci := 5) (v := .int 0) (ty := .int) (C := RX3) (T := TX3) (N := 19) hx hb hts hinX3 tyX3 tyX3_ok nmX3 hown hK hP hD hS 0 rfl rfl 18 (by decide) fl57 (fun _ h9 => h9) rfl (by decide +kernel) rfl rfl (Nat.le_of_ble_eq_true rfl) dX3_revive_27 (fun H locs hP hD hS => ?_)
      have hP : va_P G vwCl (W3 k a C n0 M n1 d 0) H := hP
      have hD : va_D A (W3 k a C n0 M n1 d 0) := hD
      refine lv_aload_n hx hb dX3_revive_30 rfl (lv_at hl 0 rfl) ?_
      refine va_get (D := G) (ci := 5) (v := .int 0) (C := RX3) (T := TX3) (N := 19) hx hb hts hinX3 hown hK hP 0 rfl rfl 18 (by decide) fl57 (fun _ h9 => h9) rfl dX3_revive_31 ?_
      refine lv_if_le (tgt := 39) hx hb dX3_revive_34 (by decide) (fun _ => ?_) (fun c9 => absurd c9 (by decide))
      refine lv_aload_n hx hb dX3_revive_39 rfl (lv_at hl 0 rfl) ?_
      refine va_get (D := G) (ci := 5) (v := .ref (a 13)) (C := RX3) (T := TX3) (N := 19) hx hb hts hinX3 hown hK hP 0 rfl rfl 13 (by decide) fl48 (fun _ h9 => h9) rfl dX3_revive_40 ?_
      refine lv_iload_n hx hb dX3_revive_43 rfl (lv_at hl 1 rfl) ?_
      refine lv_bipush (v := 119) hx hb dX3_revive_44 (by decide) ?_
      refine y_cast (ws' := W3 k a C n0 (w2 M 5 j 119) n1 d 0) (j := j) (x := 119) hx hb hK hP hD hS 13 2 rfl rfl (by omega) hsz1 (by decide) rfl dX3_revive_46 (fun H locs hP hD hS => ?_)
      refine lv_aload_n hx hb dX3_revive_47 rfl (lv_at hl 0 rfl) ?_
      refine va_get (D := G) (ci := 5) (v := .ref (a 11)) (C := RX3) (T := TX3) (N := 19) hx hb hts hinX3 hown hK hP 0 rfl rfl 11 (by decide) fl42 (fun _ h9 => h9) rfl dX3_revive_48 ?_
      refine lv_iload_n hx hb dX3_revive_51 rfl (lv_at hl 1 rfl) ?_
      refine lv_aload_n hx hb dX3_revive_52 rfl (lv_at hl 0 rfl) ?_
      refine va_get (D := G) (ci := 5) (v := .int (nI d)) (C := RX3) (T := TX3) (N := 19) hx hb hts hinX3 hown hK hP 0 rfl rfl 17 (by decide) fl71 (fun _ h9 => h9) rfl dX3_revive_53 ?_
      refine y_iast (ws' := W3 k a C n0 (w2 (w2 M 5 j 119) 6 j (nI d)) n1 d 0) (j := j) (x := (nI d)) hx hb hK hP hD hS 11 0 rfl rfl (by omega) hsz1 rfl dX3_revive_56 (fun H locs hP hD hS => ?_)
      refine lv_aload_n hx hb dX3_revive_57 rfl (lv_at hl 0 rfl) ?_
      refine va_get (D := G) (ci := 5) (v := .ref (a 12)) (C := RX3) (T := TX3) (N := 19) hx hb hts hinX3 hown hK hP 0 rfl rfl 12 (by decide) fl45 (fun _ h9 => h9) rfl dX3_revive_58 ?_
      refine lv_iload_n hx hb dX3_revive_61 rfl (lv_at hl 1 rfl) ?_
      refine lv_iconst (v := 0) hx hb dX3_revive_62 (by decide) ?_
      refine y_iast (ws' := W3 k a C n0 (w2 (w2 (w2 M 5 j 119) 6 j (nI d)) 7 j 0) n1 d 0) (j := j) (x := 0) hx hb hK hP hD hS 12 0 rfl rfl (by omega) hsz1 rfl dX3_revive_63 (fun H locs hP hD hS => ?_)
      refine lv_aload_n hx hb dX3_revive_64 rfl (lv_at hl 0 rfl) ?_
      refine lv_bipush (v := 120) hx hb dX3_revive_65 (by decide) ?_
      refine y_roV (As := [.int 120]) (rest := []) ⟨hx, hb, hml, hown, hts⟩ (c_X3_in_ l G k a C n0 (w2 (w2 (w2 M 5 j 119) 6 j (nI d)) 7 j 0) n1 d 0 120 (by omega)) (cwV 1 hts gX3_revive_X3_in_ rfl rfl rfl (by decide +kernel) ⟨Nat.le_of_ble_eq_true rfl, Nat.le_of_ble_eq_true rfl⟩) hK hP (va_recv hK hP (ci := 5) (q0 := 0) rfl rfl) rfl hl.1 rfl (Nat.le_of_ble_eq_true rfl) dX3_revive_67 ⟨Nat.le_of_ble_eq_true rfl, Nat.le_of_ble_eq_true rfl⟩ (fun r hr9 => ?_)
      subst hr9
      have hPf : va_P G vwCl (W3 k a C n0 ((o_revive (nI j) M n1 d).2.2) n1 d ((o_revive (nI j) M n1 d).1)) H := by unfold o_revive; (all_goals try first | rw [if_pos c5] | rw [if_neg c5]); (all_goals try first | rw [if_pos c19] | rw [if_neg c19]); (all_goals try simp only [clI (show j < 80 by omega)]); (all_goals try first | rw [if_pos c5] | rw [if_neg c5]); (all_goals try first | rw [if_pos c19] | rw [if_neg c19]); exact hP
      exact W.iret (v := (nI (cnt (fun z => decide ((w2 (w2 (w2 M 5 j 119) 6 j (nI d)) 7 j 0) 5 z = 120)) n1 0 0))) hx hb hr (fun τ hτ hW => ⟨⟨_, (), rfl, (by unfold o_revive; (all_goals try first | rw [if_pos c5] | rw [if_neg c5]); (all_goals try first | rw [if_pos c19] | rw [if_neg c19]); (all_goals try simp only [clI (show j < 80 by omega)]); (all_goals try first | rw [if_pos c5] | rw [if_neg c5]); (all_goals try first | rw [if_pos c19] | rw [if_neg c19]); (all_goals try rfl)), yPt hPf hτ⟩, hS.F hτ⟩) hS.2.2 dX3_revive_70
  · replace c5 : ¬ inR x n1 := b2_of1 c5
    rw [if_neg c5] at hP hD
    refine lv_iconst (v := 0) hx hb dX3_revive_8 (by decide) ?_
    have hPf : va_P G vwCl (W3 k a C n0 ((o_revive x M n1 d).2.2) n1 d ((o_revive x M n1 d).1)) H1 := by unfold o_revive; (all_goals try first | rw [if_pos c5] | rw [if_neg c5]); exact hP
    exact W.iret (v := 0) hx hb hr (fun τ hτ hW => ⟨⟨_, (), rfl, (by unfold o_revive; (all_goals try first | rw [if_pos c5] | rw [if_neg c5]); (all_goals try rfl)), yPt hPf hτ⟩, hS.F hτ⟩) hS.2.2 dX3_revive_9

set_option maxHeartbeats 4000000 in
set_option maxRecDepth 100000 in
theorem c_X3_passes (l : Launch) (G : va_G) (k : Nat → ClassId) (a : Nat → Nat) (C : Nat → Nat → Int32) (n0 : Nat) (M : Nat → Nat → Int32) (n1 : Nat) (d : Nat) (th : Int32) (sz : Nat)  (hND : va_D (fun _ => True) (W3 k a C n0 M n1 d th)) (hn : n0 ≤ 8) (hn1 : n1 ≤ 80) : Met l yX3_passes wsX3_passes ({ frames := 2, cells := 0, slots := 0, locals := 44 }) (va_Pc [.ref (a 0)] (yBs G (yT k) (W3 k a C n0 M n1 d th) sz)) (va_Qi (fun (r : Int32) (_ : Unit) => r = nI (pdm C n0 d M n1).1) (fun _ τ => va_P G vwCl (W3 k a C n0 ((pdm C n0 d M n1).2.1) ((pdm C n0 d M n1).2.2) (d + 1) th) τ.heap) (va_A (W3 k a C n0 M n1 d th) sz)) 0 0 (va_A (W3 k a C n0 M n1 d th) sz) := by
  refine Met.ofW (cc := cX3_passes) (maxL := 4) (ret := (some .int)) (by decide) rfl ?_
  intro p e s m args below meth c_ s₁ B hml hv
  obtain ⟨rfl, hsz, hP, hK⟩ := hv
  have hx := B.exec
  have hb := B.bytes
  have hr := B.returns
  have hts := atoms_spec (ws := wsX3_passes) B.pre
  have hown : s.vm.findClass RX3 = some m.cls := findClass_of_methodNamed B.named
  have hlocks := B.notSynchronized
  have hsz0 : (8 : Nat) < 2 ^ 31 := by decide
  have hsz1 : (80 : Nat) < 2 ^ 31 := by decide
  subst hsz
  have hD := hND.self (sz := s.heap.size)
  generalize hAe : va_A (W3 k a C n0 M n1 d th) s.heap.size = A at hD ⊢
  have hA : ∀ q : Nat, s.heap.size ≤ q → A q := fun q h => by rw [← hAe]; exact Or.inr h
  have hS : va_S A s.heap s.heap [] := va_S.rf
  have hinX3 : ∀ w ∈ u_ws RX3 TX3 19, w ∈ wsX3_passes := by decide +kernel
  have fl71 := hts (.fieldLink RX3 71 "DunningDeskModel" "day" "I") (by decide +kernel)
  have fl68 := hts (.fieldLink RX3 68 "DunningDeskModel" "messages" "I") (by decide +kernel)
  have fl48 := hts (.fieldLink RX3 48 "DunningDeskModel" "states" "[C") (by decide +kernel)
  have fl54 := hts (.fieldLink RX3 54 "DunningDeskModel" "takenOn" "[I") (by decide +kernel)
  have fl61 := hts (.fieldLink RX3 61 "DunningDeskModel" "cases" "I") (by decide +kernel)
  have fl16 := hts (.fieldLink RX3 16 "DunningDeskModel" "letters" "[I") (by decide +kernel)
  have hl := lv_entry [.ref (a 0)] (n := 4) (Nat.le_of_ble_eq_true rfl)
  rw [lg_entry_eq]
  generalize (lg_sl [.ref (a 0)] ++ List.replicate (4 - (lg_sl [.ref (a 0)]).length) Slot.unset).toArray = ls at hl ⊢
  have hl : lv_has ls 4 [(0, .ref (a 0))] := hl
  refine lv_aload_n hx hb dX3_passes_0 rfl (lv_at hl 0 rfl) ?_
  refine lv_dup hx hb dX3_passes_1 rfl ?_
  refine va_get (D := G) (ci := 5) (v := .int (nI d)) (C := RX3) (T := TX3) (N := 19) hx hb hts hinX3 hown hK hP 0 rfl rfl 17 (by decide) fl71 (fun _ h9 => h9) rfl dX3_passes_2 ?_
  refine lv_iconst (v := 1) hx hb dX3_passes_5 (by decide) ?_
  refine lv_iadd hx hb dX3_passes_6 ?_
  refine y_top (nI_1 d) ?_
  refine va_put (D := G) (ci := 5) (v := .int (nI (d + 1))) (ty := .int) (C := RX3) (T := TX3) (N := 19) hx hb hts hinX3 tyX3 tyX3_ok nmX3 hown hK hP hD hS 0 rfl rfl 17 (by decide) fl71 (fun _ h9 => h9) rfl (by decide +kernel) rfl rfl (Nat.le_of_ble_eq_true rfl) dX3_passes_7 (fun H locs hP hD hS => ?_)
  have hP : va_P G vwCl (W3 k a C n0 M n1 (d + 1) th) H := hP
  have hD : va_D A (W3 k a C n0 M n1 (d + 1) th) := hD
  refine lv_iconst (v := 0) hx hb dX3_passes_10 (by decide) ?_
  refine lv_istore_n (lv' := [(1, .int 0), (0, .ref (a 0))]) hx hb dX3_passes_11 rfl hl (by decide) rfl (fun ls hl => ?_)
  have hl : lv_has ls 4 [(1, .int (nI 0)), (0, .ref (a 0))] := lv_sub hl [0, 1] rfl
  refine y_loop (σ := Nat × (Nat → Nat → Int32)) (fun r xσ H locs ls => xσ.1 + r = n1 ∧ bks (nI (d + 1)) n1 0 M = bks (nI (d + 1)) r xσ.1 xσ.2 ∧ va_P G vwCl (W3 k a C n0 xσ.2 n1 (d + 1) th) H ∧ va_D A (W3 k a C n0 xσ.2 n1 (d + 1) th) ∧ va_S A s.heap H locs ∧ lv_has ls 4 [(1, .int (nI xσ.1)), (0, .ref (a 0))]) (fun r xσ H locs ls hI ih12 => ?_) n1 (0, M) _ _ _ ⟨(by omega), rfl, hP, hD, hS, hl⟩
  obtain ⟨i, N⟩ := xσ
  obtain ⟨hi, hv, hP, hD, hS, hl⟩ := hI
  dsimp only at hi hv hP hD hl
  refine lv_iload_n hx hb dX3_passes_12 rfl (lv_at hl 0 rfl) ?_
  refine lv_aload_n hx hb dX3_passes_13 rfl (lv_at hl 1 rfl) ?_
  refine va_get (D := G) (ci := 5) (v := .int (nI n1)) (C := RX3) (T := TX3) (N := 19) hx hb hts hinX3 hown hK hP 0 rfl rfl 16 (by decide) fl68 (fun _ h9 => h9) rfl dX3_passes_14 ?_
  refine lv_icmp_ge (tgt := 58) hx hb dX3_passes_17 (by decide) (fun c17 => ?_) (fun c17 => ?_)
  · replace c17 : n1 ≤ i := (nI_leI (a := n1) (b := i) (by omega) (by omega)).mp c17
    obtain rfl : r = 0 := by omega
    refine lv_iconst (v := 0) hx hb dX3_passes_58 (by decide) ?_
    refine lv_istore_n (lv' := [(1, .int 0), (0, .ref (a 0))]) hx hb dX3_passes_59 rfl hl (by decide) rfl (fun ls hl => ?_)
    refine lv_iconst (v := 0) hx hb dX3_passes_60 (by decide) ?_
    refine lv_istore_n (lv' := [(2, .int 0), (1, .int 0), (0, .ref (a 0))]) hx hb dX3_passes_61 rfl hl (by decide) rfl (fun ls hl => ?_)
    have hl : lv_has ls 4 [(2, .int (nI 0)), (1, .int (nI 0)), (0, .ref (a 0))] := lv_sub hl [0, 1, 2] rfl
    refine y_loop (σ := Nat × Nat × (Nat → Nat → Int32) × Nat) (fun r xσ H locs ls => xσ.2.1 + r = n0 ∧ xσ.2.2.2 ≤ 80 ∧ xσ.1 ≤ xσ.2.1 ∧ (pdm C n0 d M n1) = rms C (nI (d + 1)) r xσ.2.1 (xσ.1, xσ.2.2.1, xσ.2.2.2) ∧ va_P G vwCl (W3 k a C n0 xσ.2.2.1 xσ.2.2.2 (d + 1) th) H ∧ va_D A (W3 k a C n0 xσ.2.2.1 xσ.2.2.2 (d + 1) th) ∧ va_S A s.heap H locs ∧ lv_has ls 4 [(2, .int (nI xσ.2.1)), (1, .int (nI xσ.1)), (0, .ref (a 0))]) (fun r xσ H locs ls hI ih62 => ?_) n0 (0, 0, N, n1) _ _ _ ⟨(by dsimp only; omega), (by dsimp only; omega), (Nat.le_refl 0), (by unfold pdm; rw [hv]; rfl), hP, hD, hS, hl⟩
    obtain ⟨po, z9, N2, m2⟩ := xσ
    obtain ⟨hz, hm2, hpo, hv2, hP, hD, hS, hl⟩ := hI
    dsimp only at hz hm2 hpo hv2 hP hD hl
    refine lv_iload_n hx hb dX3_passes_62 rfl (lv_at hl 0 rfl) ?_
    refine lv_aload_n hx hb dX3_passes_63 rfl (lv_at hl 2 rfl) ?_
    refine va_get (D := G) (ci := 5) (v := .int (nI n0)) (C := RX3) (T := TX3) (N := 19) hx hb hts hinX3 hown hK hP 0 rfl rfl 5 (by decide) fl61 (fun _ h9 => h9) rfl dX3_passes_64 ?_
    refine lv_icmp_ge (tgt := 142) hx hb dX3_passes_67 (by decide) (fun c67 => ?_) (fun c67 => ?_)
    · replace c67 : n0 ≤ z9 := (nI_leI (a := n0) (b := z9) (by omega) (by omega)).mp c67
      refine lv_iload_n hx hb dX3_passes_142 rfl (lv_at hl 1 rfl) ?_
      have hPf : va_P G vwCl (W3 k a C n0 ((pdm C n0 d M n1).2.1) ((pdm C n0 d M n1).2.2) (d + 1) th) H := by (obtain rfl : r = 0 := by omega); rw [hv2]; exact hP
      exact W.iret (v := (nI po)) hx hb hr (fun τ hτ hW => ⟨⟨_, (), rfl, (by (obtain rfl : r = 0 := by omega); rw [hv2]; rfl), yPt hPf hτ⟩, hS.F hτ⟩) hS.2.2 dX3_passes_143
    · replace c67 : ¬ n0 ≤ z9 := fun h9 => c67 ((nI_leI (a := n0) (b := z9) (by omega) (by omega)).mpr h9)
      obtain ⟨r9, rfl⟩ : ∃ r9, r = r9 + 1 := ⟨r - 1, by omega⟩
      refine lv_aload_n hx hb dX3_passes_70 rfl (lv_at hl 2 rfl) ?_
      refine va_get (D := G) (ci := 5) (v := .int (nI m2)) (C := RX3) (T := TX3) (N := 19) hx hb hts hinX3 hown hK hP 0 rfl rfl 16 (by decide) fl68 (fun _ h9 => h9) rfl dX3_passes_71 ?_
      refine lv_bipush (v := 80) hx hb dX3_passes_74 (by decide) ?_
      refine lv_icmp_ge (tgt := 136) hx hb dX3_passes_76 (by decide) (fun c76 => ?_) (fun c76 => ?_)
      · replace c76 : 80 ≤ m2 := (nI_leI (a := 80) (b := m2) (by omega) (by omega)).mp c76
        refine lv_iinc (v := nI (z9 + 1)) (lv' := [(2, .int (nI (z9 + 1))), (1, .int (nI po)), (0, .ref (a 0))]) hx hb dX3_passes_136 hl (k := 0) rfl (nI_1 z9) (by decide) rfl (fun ls hl => ?_)
        refine lv_goto (tgt := 62) hx hb dX3_passes_139 (by decide) ?_
        exact ih62 r9 (po, z9 + 1, N2, m2) _ _ _ (by omega) ⟨(by dsimp only; omega), (by dsimp only; omega), (by dsimp only; omega), (by rw [hv2]; apply rms_1; unfold rmst; first | exact if_pos ⟨Nat.not_le.mp c76, c84, Int32.not_lt.mp c96⟩ | exact if_neg (fun h9 => absurd h9.1 (Nat.not_lt.mpr c76)) | exact if_neg (fun h9 => c84 h9.2.1) | exact if_neg (fun h9 => absurd h9.2.2 (Int32.not_le.mpr c96))), hP, hD, hS, lv_sub hl [0, 1, 2] rfl⟩
      · replace c76 : ¬ 80 ≤ m2 := fun h9 => c76 ((nI_leI (a := 80) (b := m2) (by omega) (by omega)).mpr h9)
        refine lv_aload_n hx hb dX3_passes_79 rfl (lv_at hl 2 rfl) ?_
        refine lv_iload_n hx hb dX3_passes_80 rfl (lv_at hl 0 rfl) ?_
        refine y_roV (As := [.int (nI z9)]) (rest := []) ⟨hx, hb, hml, hown, hts⟩ (c_X3_mayRemind l G k a C n0 N2 m2 (d + 1) th z9 (by omega) (by omega)) (cwV 1 hts gX3_passes_X3_mayRemind rfl rfl rfl (by decide +kernel) ⟨Nat.le_of_ble_eq_true rfl, Nat.le_of_ble_eq_true rfl⟩) hK hP (va_recv hK hP (ci := 5) (q0 := 0) rfl rfl) rfl hl.1 rfl (Nat.le_of_ble_eq_true rfl) dX3_passes_81 ⟨Nat.le_of_ble_eq_true rfl, Nat.le_of_ble_eq_true rfl⟩ (fun r hr9 => ?_)
        subst hr9
        refine lv_if_eq (tgt := 136) hx hb dX3_passes_84 (by decide) (fun c84 => ?_) (fun c84 => ?_)
        · replace c84 : ¬ (may C N2 m2 z9) := b2_of0 c84
          refine lv_iinc (v := nI (z9 + 1)) (lv' := [(2, .int (nI (z9 + 1))), (1, .int (nI po)), (0, .ref (a 0))]) hx hb dX3_passes_136 hl (k := 0) rfl (nI_1 z9) (by decide) rfl (fun ls hl => ?_)
          refine lv_goto (tgt := 62) hx hb dX3_passes_139 (by decide) ?_
          exact ih62 r9 (po, z9 + 1, N2, m2) _ _ _ (by omega) ⟨(by dsimp only; omega), (by dsimp only; omega), (by dsimp only; omega), (by rw [hv2]; apply rms_1; unfold rmst; first | exact if_pos ⟨Nat.not_le.mp c76, c84, Int32.not_lt.mp c96⟩ | exact if_neg (fun h9 => absurd h9.1 (Nat.not_lt.mpr c76)) | exact if_neg (fun h9 => c84 h9.2.1) | exact if_neg (fun h9 => absurd h9.2.2 (Int32.not_le.mpr c96))), hP, hD, hS, lv_sub hl [0, 1, 2] rfl⟩
        · replace c84 : may C N2 m2 z9 := b2_of1 c84
          refine lv_aload_n hx hb dX3_passes_87 rfl (lv_at hl 2 rfl) ?_
          refine va_get (D := G) (ci := 5) (v := .int (nI (d + 1))) (C := RX3) (T := TX3) (N := 19) hx hb hts hinX3 hown hK hP 0 rfl rfl 17 (by decide) fl71 (fun _ h9 => h9) rfl dX3_passes_88 ?_
          refine lv_aload_n hx hb dX3_passes_91 rfl (lv_at hl 2 rfl) ?_
          refine lv_iload_n hx hb dX3_passes_92 rfl (lv_at hl 0 rfl) ?_
          refine y_roV (As := [.int (nI z9)]) (rest := [.int (nI (d + 1))]) ⟨hx, hb, hml, hown, hts⟩ (c_X3_remindsFrom l G k a C n0 N2 m2 (d + 1) th z9 (by omega)) (cwV 1 hts gX3_passes_X3_remindsFrom rfl rfl rfl (by decide +kernel) ⟨Nat.le_of_ble_eq_true rfl, Nat.le_of_ble_eq_true rfl⟩) hK hP (va_recv hK hP (ci := 5) (q0 := 0) rfl rfl) rfl hl.1 rfl (Nat.le_of_ble_eq_true rfl) dX3_passes_93 ⟨Nat.le_of_ble_eq_true rfl, Nat.le_of_ble_eq_true rfl⟩ (fun r hr9 => ?_)
          subst hr9
          refine lv_icmp_lt (tgt := 136) hx hb dX3_passes_96 (by decide) (fun c96 => ?_) (fun c96 => ?_)
          · skip
            refine lv_iinc (v := nI (z9 + 1)) (lv' := [(2, .int (nI (z9 + 1))), (1, .int (nI po)), (0, .ref (a 0))]) hx hb dX3_passes_136 hl (k := 0) rfl (nI_1 z9) (by decide) rfl (fun ls hl => ?_)
            refine lv_goto (tgt := 62) hx hb dX3_passes_139 (by decide) ?_
            exact ih62 r9 (po, z9 + 1, N2, m2) _ _ _ (by omega) ⟨(by dsimp only; omega), (by dsimp only; omega), (by dsimp only; omega), (by rw [hv2]; apply rms_1; unfold rmst; first | exact if_pos ⟨Nat.not_le.mp c76, c84, Int32.not_lt.mp c96⟩ | exact if_neg (fun h9 => absurd h9.1 (Nat.not_lt.mpr c76)) | exact if_neg (fun h9 => c84 h9.2.1) | exact if_neg (fun h9 => absurd h9.2.2 (Int32.not_le.mpr c96))), hP, hD, hS, lv_sub hl [0, 1, 2] rfl⟩
          · skip
            refine lv_aload_n hx hb dX3_passes_99 rfl (lv_at hl 2 rfl) ?_
            refine lv_iconst (v := 0) hx hb dX3_passes_100 (by decide) ?_
            refine lv_sipush (v := 1000) hx hb dX3_passes_101 (by decide) ?_
            refine lv_bipush (v := 10) hx hb dX3_passes_104 (by decide) ?_
            refine lv_iload_n hx hb dX3_passes_106 rfl (lv_at hl 0 rfl) ?_
            refine lv_imul hx hb dX3_passes_107 ?_
            refine lv_iadd hx hb dX3_passes_108 ?_
            refine lv_aload_n hx hb dX3_passes_109 rfl (lv_at hl 2 rfl) ?_
            refine va_get (D := G) (ci := 5) (v := .ref (a 3)) (C := RX3) (T := TX3) (N := 19) hx hb hts hinX3 hown hK hP 0 rfl rfl 2 (by decide) fl16 (fun _ h9 => h9) rfl dX3_passes_110 ?_
            refine lv_iload_n hx hb dX3_passes_113 rfl (lv_at hl 0 rfl) ?_
            refine y_iald hx hb hK hP 3 0 rfl rfl (j := z9) (by omega) hsz0 dX3_passes_114 ?_
            refine lv_iadd hx hb dX3_passes_115 ?_
            refine lv_bipush (v := 114) hx hb dX3_passes_116 (by decide) ?_
            refine lv_iload_n hx hb dX3_passes_118 rfl (lv_at hl 0 rfl) ?_
            refine lv_aload_n hx hb dX3_passes_119 rfl (lv_at hl 2 rfl) ?_
            refine va_get (D := G) (ci := 5) (v := .ref (a 3)) (C := RX3) (T := TX3) (N := 19) hx hb hts hinX3 hown hK hP 0 rfl rfl 2 (by decide) fl16 (fun _ h9 => h9) rfl dX3_passes_120 ?_
            refine lv_iload_n hx hb dX3_passes_123 rfl (lv_at hl 0 rfl) ?_
            refine y_iald hx hb hK hP 3 0 rfl rfl (j := z9) (by omega) hsz0 dX3_passes_124 ?_
            refine lv_aload_n hx hb dX3_passes_125 rfl (lv_at hl 2 rfl) ?_
            refine va_get (D := G) (ci := 5) (v := .int (nI (d + 1))) (C := RX3) (T := TX3) (N := 19) hx hb hts hinX3 hown hK hP 0 rfl rfl 17 (by decide) fl71 (fun _ h9 => h9) rfl dX3_passes_126 ?_
            have hfr9 : ∀ q, va_A (W3 k a C n0 N2 m2 (d + 1) th) _ q → A q := va_free hD hS hA [0, 1, 2, 3, 4, 5, 6, 7, 8, 9, 10, 11, 12, 13, 14, 15] rfl
            refine y_rwV (w := W3 k a C n0 N2 m2 (d + 1) th) (w' := fun (_ : Unit) => W3 k a C n0 (mad2 N2 m2 0 ((1000 + (10 * (nI z9))) + (C 2 z9)) 114 (nI z9) (C 2 z9) (nI (d + 1)) (if (nI z9) < nI n0 then 119 else 104)) (m2 + 1) (d + 1) th) (As := [.int 0, .int ((1000 + (10 * (nI z9))) + (C 2 z9)), .int 114, .int (nI z9), .int (C 2 z9), .int (nI (d + 1))]) (rest := []) ⟨hx, hb, hml, hown, hts⟩ (c_X3_adds l G k a C n0 N2 m2 (d + 1) th _ 0 ((1000 + (10 * (nI z9))) + (C 2 z9)) 114 (nI z9) (C 2 z9) (nI (d + 1)) (yD hND rfl) (by omega) (by decide)) (cwV 6 hts gX3_passes_X3_adds rfl rfl rfl (by decide +kernel) ⟨Nat.le_of_ble_eq_true rfl, Nat.le_of_ble_eq_true rfl⟩) hK hP (va_recv hK hP (ci := 5) (q0 := 0) rfl rfl) hS hfr9 rfl hl.1 rfl (Nat.le_of_ble_eq_true rfl) dX3_passes_129 ⟨Nat.le_of_ble_eq_true rfl, Nat.le_of_ble_eq_true rfl⟩ (fun r u9 H1 locs1 hr9 hP9 hz9 hk9 hS9 => ?_)
            have hP9 : va_P G vwCl (W3 k a C n0 (mad2 N2 m2 0 ((1000 + (10 * (nI z9))) + (C 2 z9)) 114 (nI z9) (C 2 z9) (nI (d + 1)) (if (nI z9) < nI n0 then 119 else 104)) (m2 + 1) (d + 1) th) H1 := hP9
            have hD9 : va_D A (W3 k a C n0 (mad2 N2 m2 0 ((1000 + (10 * (nI z9))) + (C 2 z9)) 114 (nI z9) (C 2 z9) (nI (d + 1)) (if (nI z9) < nI n0 then 119 else 104)) (m2 + 1) (d + 1) th) := yD hD rfl
            clear hP hD hS hfr9 hz9 hk9
            have hP := hP9
            have hD := hD9
            have hS := hS9
            clear hP9 hD9 hS9
            subst hr9
            rw [if_pos ((nI_ltI (by omega) (by omega)).mpr (by omega))] at hP hD
            refine lv_istore_n (lv' := [(3, .int (nI m2)), (2, .int (nI z9)), (1, .int (nI po)), (0, .ref (a 0))]) hx hb dX3_passes_132 rfl hl (by decide) rfl (fun ls hl => ?_)
            refine lv_iinc (v := nI (po + 1)) (lv' := [(1, .int (nI (po + 1))), (3, .int (nI m2)), (2, .int (nI z9)), (0, .ref (a 0))]) hx hb dX3_passes_133 hl (k := 2) rfl (nI_1 po) (by decide) rfl (fun ls hl => ?_)
            refine lv_iinc (v := nI (z9 + 1)) (lv' := [(2, .int (nI (z9 + 1))), (1, .int (nI (po + 1))), (3, .int (nI m2)), (0, .ref (a 0))]) hx hb dX3_passes_136 hl (k := 2) rfl (nI_1 z9) (by decide) rfl (fun ls hl => ?_)
            refine lv_goto (tgt := 62) hx hb dX3_passes_139 (by decide) ?_
            exact ih62 r9 (po + 1, z9 + 1, mad2 N2 m2 0 ((1000 + (10 * (nI z9))) + (C 2 z9)) 114 (nI z9) (C 2 z9) (nI (d + 1)) (119), m2 + 1) _ _ _ (by omega) ⟨(by dsimp only; omega), (by dsimp only; omega), (by dsimp only; omega), (by rw [hv2]; apply rms_1; unfold rmst; first | exact if_pos ⟨Nat.not_le.mp c76, c84, Int32.not_lt.mp c96⟩ | exact if_neg (fun h9 => absurd h9.1 (Nat.not_lt.mpr c76)) | exact if_neg (fun h9 => c84 h9.2.1) | exact if_neg (fun h9 => absurd h9.2.2 (Int32.not_le.mpr c96))), hP, hD, hS, lv_sub hl [0, 1, 3] rfl⟩
  · replace c17 : ¬ n1 ≤ i := fun h9 => c17 ((nI_leI (a := n1) (b := i) (by omega) (by omega)).mpr h9)
    obtain ⟨r', rfl⟩ : ∃ r', r = r' + 1 := ⟨r - 1, by omega⟩
    refine lv_aload_n hx hb dX3_passes_20 rfl (lv_at hl 1 rfl) ?_
    refine va_get (D := G) (ci := 5) (v := .ref (a 13)) (C := RX3) (T := TX3) (N := 19) hx hb hts hinX3 hown hK hP 0 rfl rfl 13 (by decide) fl48 (fun _ h9 => h9) rfl dX3_passes_21 ?_
    refine lv_iload_n hx hb dX3_passes_24 rfl (lv_at hl 0 rfl) ?_
    refine y_cald hx hb hK hP 13 2 rfl rfl (j := i) (by omega) hsz1 dX3_passes_25 ?_
    refine lv_bipush (v := 116) hx hb dX3_passes_26 (by decide) ?_
    refine lv_icmp_ne (tgt := 52) hx hb dX3_passes_28 (by decide) (fun c28 => ?_) (fun c28 => ?_)
    · skip
      refine lv_iinc (v := nI (i + 1)) (lv' := [(1, .int (nI (i + 1))), (0, .ref (a 0))]) hx hb dX3_passes_52 hl (k := 0) rfl (nI_1 i) (by decide) rfl (fun ls hl => ?_)
      refine lv_goto (tgt := 12) hx hb dX3_passes_55 (by decide) ?_
      exact ih12 r' (i + 1, N) _ _ _ (by omega) ⟨(by omega), (by rw [hv]; apply bks_1; first | exact if_pos ⟨c28, c43⟩ | exact if_neg (fun h9 => c28 h9.1) | exact if_neg (fun h9 => h9.2 c43)), hP, hD, hS, lv_sub hl [0, 1] rfl⟩
    · skip
      refine lv_aload_n hx hb dX3_passes_31 rfl (lv_at hl 1 rfl) ?_
      refine va_get (D := G) (ci := 5) (v := .int (nI (d + 1))) (C := RX3) (T := TX3) (N := 19) hx hb hts hinX3 hown hK hP 0 rfl rfl 17 (by decide) fl71 (fun _ h9 => h9) rfl dX3_passes_32 ?_
      refine lv_aload_n hx hb dX3_passes_35 rfl (lv_at hl 1 rfl) ?_
      refine va_get (D := G) (ci := 5) (v := .ref (a 15)) (C := RX3) (T := TX3) (N := 19) hx hb hts hinX3 hown hK hP 0 rfl rfl 15 (by decide) fl54 (fun _ h9 => h9) rfl dX3_passes_36 ?_
      refine lv_iload_n hx hb dX3_passes_39 rfl (lv_at hl 0 rfl) ?_
      refine y_iald hx hb hK hP 15 0 rfl rfl (j := i) (by omega) hsz1 dX3_passes_40 ?_
      refine lv_isub hx hb dX3_passes_41 ?_
      refine lv_iconst (v := 5) hx hb dX3_passes_42 (by decide) ?_
      refine lv_icmp_lt (tgt := 52) hx hb dX3_passes_43 (by decide) (fun c43 => ?_) (fun c43 => ?_)
      · skip
        refine lv_iinc (v := nI (i + 1)) (lv' := [(1, .int (nI (i + 1))), (0, .ref (a 0))]) hx hb dX3_passes_52 hl (k := 0) rfl (nI_1 i) (by decide) rfl (fun ls hl => ?_)
        refine lv_goto (tgt := 12) hx hb dX3_passes_55 (by decide) ?_
        exact ih12 r' (i + 1, N) _ _ _ (by omega) ⟨(by omega), (by rw [hv]; apply bks_1; first | exact if_pos ⟨c28, c43⟩ | exact if_neg (fun h9 => c28 h9.1) | exact if_neg (fun h9 => h9.2 c43)), hP, hD, hS, lv_sub hl [0, 1] rfl⟩
      · skip
        refine lv_aload_n hx hb dX3_passes_46 rfl (lv_at hl 1 rfl) ?_
        refine lv_iload_n hx hb dX3_passes_47 rfl (lv_at hl 0 rfl) ?_
        have hfr9 : ∀ q, va_A (W3 k a C n0 N n1 (d + 1) th) _ q → A q := va_free hD hS hA [0, 1, 2, 3, 4, 5, 6, 7, 8, 9, 10, 11, 12, 13, 14, 15] rfl
        refine y_rwV (w := W3 k a C n0 N n1 (d + 1) th) (w' := fun (_ : Unit) => W3 k a C n0 (bk N i (nI (d + 1))) n1 (d + 1) th) (As := [.int (nI i)]) (rest := []) ⟨hx, hb, hml, hown, hts⟩ (c_X3_back l G k a C n0 N n1 (d + 1) th _ i (yD hND rfl) (by omega)) (cwV 1 hts gX3_passes_X3_back rfl rfl rfl (by decide +kernel) ⟨Nat.le_of_ble_eq_true rfl, Nat.le_of_ble_eq_true rfl⟩) hK hP (va_recv hK hP (ci := 5) (q0 := 0) rfl rfl) hS hfr9 rfl hl.1 rfl (Nat.le_of_ble_eq_true rfl) dX3_passes_48 ⟨Nat.le_of_ble_eq_true rfl, Nat.le_of_ble_eq_true rfl⟩ (fun r u9 H1 locs1 hr9 hP9 hz9 hk9 hS9 => ?_)
        have hP9 : va_P G vwCl (W3 k a C n0 (bk N i (nI (d + 1))) n1 (d + 1) th) H1 := hP9
        have hD9 : va_D A (W3 k a C n0 (bk N i (nI (d + 1))) n1 (d + 1) th) := yD hD rfl
        clear hP hD hS hfr9 hz9 hk9
        have hP := hP9
        have hD := hD9
        have hS := hS9
        clear hP9 hD9 hS9
        subst hr9
        refine lv_istore_n (lv' := [(2, .int (N 7 i + 1)), (1, .int (nI i)), (0, .ref (a 0))]) hx hb dX3_passes_51 rfl hl (by decide) rfl (fun ls hl => ?_)
        refine lv_iinc (v := nI (i + 1)) (lv' := [(1, .int (nI (i + 1))), (2, .int (N 7 i + 1)), (0, .ref (a 0))]) hx hb dX3_passes_52 hl (k := 1) rfl (nI_1 i) (by decide) rfl (fun ls hl => ?_)
        refine lv_goto (tgt := 12) hx hb dX3_passes_55 (by decide) ?_
        exact ih12 r' (i + 1, bk N i (nI (d + 1))) _ _ _ (by omega) ⟨(by omega), (by rw [hv]; apply bks_1; first | exact if_pos ⟨c28, c43⟩ | exact if_neg (fun h9 => c28 h9.1) | exact if_neg (fun h9 => h9.2 c43)), hP, hD, hS, lv_sub hl [0, 2] rfl⟩

set_option maxHeartbeats 4000000 in
set_option maxRecDepth 100000 in
theorem c_X3_pass (l : Launch) (G : va_G) (k : Nat → ClassId) (a : Nat → Nat) (C : Nat → Nat → Int32) (n0 : Nat) (M : Nat → Nat → Int32) (n1 : Nat) (d : Nat) (th : Int32) (sz : Nat) (dd : Int32) (hND : va_D (fun _ => True) (W3 k a C n0 M n1 d th)) (hn : n0 ≤ 8) (hn1 : n1 ≤ 80) : Met l yX3_pass wsX3_pass ({ frames := 3, cells := 0, slots := 0, locals := 67 }) (va_Pc [.ref (a 0), .int dd] (yBs G (yT k) (W3 k a C n0 M n1 d th) sz)) (va_Qi (fun (r : Int32) (_ : Unit) => r = nI (o_pass dd C n0 M n1 d).2.1.1) (fun _ τ => va_P G vwCl (W3 k a C n0 ((o_pass dd C n0 M n1 d).2.1.2.1) ((o_pass dd C n0 M n1 d).2.1.2.2) ((o_pass dd C n0 M n1 d).2.2) ((o_pass dd C n0 M n1 d).1)) τ.heap) (va_A (W3 k a C n0 M n1 d th) sz)) 0 0 (va_A (W3 k a C n0 M n1 d th) sz) := by
  refine Met.ofW (cc := cX3_pass) (maxL := 4) (ret := (some .int)) (by decide) rfl ?_
  intro p e s m args below meth c_ s₁ B hml hv
  obtain ⟨rfl, hsz, hP, hK⟩ := hv
  have hx := B.exec
  have hb := B.bytes
  have hr := B.returns
  have hts := atoms_spec (ws := wsX3_pass) B.pre
  have hown : s.vm.findClass RX3 = some m.cls := findClass_of_methodNamed B.named
  have hlocks := B.notSynchronized
  have hsz0 : (8 : Nat) < 2 ^ 31 := by decide
  have hsz1 : (80 : Nat) < 2 ^ 31 := by decide
  subst hsz
  have hD := hND.self (sz := s.heap.size)
  generalize hAe : va_A (W3 k a C n0 M n1 d th) s.heap.size = A at hD ⊢
  have hA : ∀ q : Nat, s.heap.size ≤ q → A q := fun q h => by rw [← hAe]; exact Or.inr h
  have hS : va_S A s.heap s.heap [] := va_S.rf
  have hinX3 : ∀ w ∈ u_ws RX3 TX3 19, w ∈ wsX3_pass := by decide +kernel
  have fl71 := hts (.fieldLink RX3 71 "DunningDeskModel" "day" "I") (by decide +kernel)
  have fl57 := hts (.fieldLink RX3 57 "DunningDeskModel" "thrown" "I") (by decide +kernel)
  have hl := lv_entry [.ref (a 0), .int dd] (n := 4) (Nat.le_of_ble_eq_true rfl)
  rw [lg_entry_eq]
  generalize (lg_sl [.ref (a 0), .int dd] ++ List.replicate (4 - (lg_sl [.ref (a 0), .int dd]).length) Slot.unset).toArray = ls at hl ⊢
  have hl : lv_has ls 4 [(0, .ref (a 0)), (1, .int dd)] := hl
  refine lv_aload_n hx hb dX3_pass_0 rfl (lv_at hl 0 rfl) ?_
  refine lv_iload_n hx hb dX3_pass_1 rfl (lv_at hl 1 rfl) ?_
  refine lv_iconst (v := 1) hx hb dX3_pass_2 (by decide) ?_
  refine lv_bipush (v := 30) hx hb dX3_pass_3 (by decide) ?_
  refine y_roS (As := [.int dd, .int 1, .int 30]) (rest := [.ref (a 0)]) ⟨hx, hb, hml, hown, hts⟩ (c_X3_in l dd 1 30 ) (va_cwS 3 hts gX3_pass_X3_in rfl rfl rfl (by decide +kernel) ⟨Nat.le_of_ble_eq_true rfl, Nat.le_of_ble_eq_true rfl⟩) rfl hl.1 rfl (Nat.le_of_ble_eq_true rfl) dX3_pass_5 ⟨Nat.le_of_ble_eq_true rfl, Nat.le_of_ble_eq_true rfl⟩ (fun r hr9 => ?_)
  subst hr9
  refine lv_if_eq (tgt := 27) hx hb dX3_pass_8 (by decide) (fun c8 => ?_) (fun c8 => ?_)
  · replace c8 : ¬ (rg 1 30 dd) := b2_of0 c8
    refine lv_iconst (v := 1) hx hb dX3_pass_27 (by decide) ?_
    refine va_put (D := G) (ci := 5) (v := .int 1) (ty := .int) (C := RX3) (T := TX3) (N := 19) hx hb hts hinX3 tyX3 tyX3_ok nmX3 hown hK hP hD hS 0 rfl rfl 18 (by decide) fl57 (fun _ h9 => h9) rfl (by decide +kernel) rfl rfl (Nat.le_of_ble_eq_true rfl) dX3_pass_28 (fun H locs hP hD hS => ?_)
    have hP : va_P G vwCl (W3 k a C n0 M n1 d 1) H := hP
    have hD : va_D A (W3 k a C n0 M n1 d 1) := hD
    refine lv_iconst (v := 0) hx hb dX3_pass_31 (by decide) ?_
    refine lv_istore_n (lv' := [(2, .int 0), (0, .ref (a 0)), (1, .int dd)]) hx hb dX3_pass_32 rfl hl (by decide) rfl (fun ls hl => ?_)
    refine lv_iconst (v := 0) hx hb dX3_pass_33 (by decide) ?_
    refine lv_istore_n (lv' := [(3, .int 0), (2, .int 0), (0, .ref (a 0)), (1, .int dd)]) hx hb dX3_pass_34 rfl hl (by decide) rfl (fun ls hl => ?_)
    refine lv_iload_n hx hb dX3_pass_35 rfl (lv_at hl 0 rfl) ?_
    refine lv_iload_n hx hb dX3_pass_36 rfl (lv_at hl 3 rfl) ?_
    refine lv_icmp_ge (tgt := 60) hx hb dX3_pass_37 (by decide) (fun c37 => ?_) (fun c37 => ?_)
    · skip
      refine lv_iload_n hx hb dX3_pass_60 rfl (lv_at hl 1 rfl) ?_
      have hPf : va_P G vwCl (W3 k a C n0 ((o_pass dd C n0 M n1 d).2.1.2.1) ((o_pass dd C n0 M n1 d).2.1.2.2) ((o_pass dd C n0 M n1 d).2.2) ((o_pass dd C n0 M n1 d).1)) H := by first | ((obtain rfl : r = 0 := by omega); unfold o_pass; rw [if_pos c8, if_neg c20]; simp only [clI (show e9 < 80 by omega)]; (obtain rfl : z9 = e9 := by omega); rw [hv]; rw [hd9] at hP; exact hP) | (unfold o_pass; first | (rw [if_neg c8]; exact hP) | (rw [if_pos c8, if_pos c20]; exact hP))
      exact W.iret (v := 0) hx hb hr (fun τ hτ hW => ⟨⟨_, (), rfl, (by first | ((obtain rfl : r = 0 := by omega); unfold o_pass; rw [if_pos c8, if_neg c20]; simp only [clI (show e9 < 80 by omega)]; rw [hv]; rfl) | (unfold o_pass; first | (rw [if_neg c8]; rfl) | (rw [if_pos c8, if_pos c20]; rfl))), yPt hPf hτ⟩, hS.F hτ⟩) hS.2.2 dX3_pass_61
    · skip
      refine lv_aload_n hx hb dX3_pass_40 rfl (lv_at hl 2 rfl) ?_
      refine va_get (D := G) (ci := 5) (v := .int 1) (C := RX3) (T := TX3) (N := 19) hx hb hts hinX3 hown hK hP 0 rfl rfl 18 (by decide) fl57 (fun _ h9 => h9) rfl dX3_pass_41 ?_
      refine lv_if_ne (tgt := 60) hx hb dX3_pass_44 (by decide) (fun _ => ?_) (fun c9 => absurd c9 (by decide))
      refine lv_iload_n hx hb dX3_pass_60 rfl (lv_at hl 1 rfl) ?_
      have hPf : va_P G vwCl (W3 k a C n0 ((o_pass dd C n0 M n1 d).2.1.2.1) ((o_pass dd C n0 M n1 d).2.1.2.2) ((o_pass dd C n0 M n1 d).2.2) ((o_pass dd C n0 M n1 d).1)) H := by first | ((obtain rfl : r = 0 := by omega); unfold o_pass; rw [if_pos c8, if_neg c20]; simp only [clI (show e9 < 80 by omega)]; (obtain rfl : z9 = e9 := by omega); rw [hv]; rw [hd9] at hP; exact hP) | (unfold o_pass; first | (rw [if_neg c8]; exact hP) | (rw [if_pos c8, if_pos c20]; exact hP))
      exact W.iret (v := 0) hx hb hr (fun τ hτ hW => ⟨⟨_, (), rfl, (by first | ((obtain rfl : r = 0 := by omega); unfold o_pass; rw [if_pos c8, if_neg c20]; simp only [clI (show e9 < 80 by omega)]; rw [hv]; rfl) | (unfold o_pass; first | (rw [if_neg c8]; rfl) | (rw [if_pos c8, if_pos c20]; rfl))), yPt hPf hτ⟩, hS.F hτ⟩) hS.2.2 dX3_pass_61
  · replace c8 : rg 1 30 dd := b2_of1 c8
    refine lv_aload_n hx hb dX3_pass_11 rfl (lv_at hl 0 rfl) ?_
    refine va_get (D := G) (ci := 5) (v := .int (nI d)) (C := RX3) (T := TX3) (N := 19) hx hb hts hinX3 hown hK hP 0 rfl rfl 17 (by decide) fl71 (fun _ h9 => h9) rfl dX3_pass_12 ?_
    refine lv_iload_n hx hb dX3_pass_15 rfl (lv_at hl 1 rfl) ?_
    refine lv_iadd hx hb dX3_pass_16 ?_
    refine lv_sipush (v := 999) hx hb dX3_pass_17 (by decide) ?_
    refine lv_icmp_gt (tgt := 27) hx hb dX3_pass_20 (by decide) (fun c20 => ?_) (fun c20 => ?_)
    · skip
      refine lv_iconst (v := 1) hx hb dX3_pass_27 (by decide) ?_
      refine va_put (D := G) (ci := 5) (v := .int 1) (ty := .int) (C := RX3) (T := TX3) (N := 19) hx hb hts hinX3 tyX3 tyX3_ok nmX3 hown hK hP hD hS 0 rfl rfl 18 (by decide) fl57 (fun _ h9 => h9) rfl (by decide +kernel) rfl rfl (Nat.le_of_ble_eq_true rfl) dX3_pass_28 (fun H locs hP hD hS => ?_)
      have hP : va_P G vwCl (W3 k a C n0 M n1 d 1) H := hP
      have hD : va_D A (W3 k a C n0 M n1 d 1) := hD
      refine lv_iconst (v := 0) hx hb dX3_pass_31 (by decide) ?_
      refine lv_istore_n (lv' := [(2, .int 0), (0, .ref (a 0)), (1, .int dd)]) hx hb dX3_pass_32 rfl hl (by decide) rfl (fun ls hl => ?_)
      refine lv_iconst (v := 0) hx hb dX3_pass_33 (by decide) ?_
      refine lv_istore_n (lv' := [(3, .int 0), (2, .int 0), (0, .ref (a 0)), (1, .int dd)]) hx hb dX3_pass_34 rfl hl (by decide) rfl (fun ls hl => ?_)
      refine lv_iload_n hx hb dX3_pass_35 rfl (lv_at hl 0 rfl) ?_
      refine lv_iload_n hx hb dX3_pass_36 rfl (lv_at hl 3 rfl) ?_
      refine lv_icmp_ge (tgt := 60) hx hb dX3_pass_37 (by decide) (fun c37 => ?_) (fun c37 => ?_)
      · skip
        refine lv_iload_n hx hb dX3_pass_60 rfl (lv_at hl 1 rfl) ?_
        have hPf : va_P G vwCl (W3 k a C n0 ((o_pass dd C n0 M n1 d).2.1.2.1) ((o_pass dd C n0 M n1 d).2.1.2.2) ((o_pass dd C n0 M n1 d).2.2) ((o_pass dd C n0 M n1 d).1)) H := by first | ((obtain rfl : r = 0 := by omega); unfold o_pass; rw [if_pos c8, if_neg c20]; simp only [clI (show e9 < 80 by omega)]; (obtain rfl : z9 = e9 := by omega); rw [hv]; rw [hd9] at hP; exact hP) | (unfold o_pass; first | (rw [if_neg c8]; exact hP) | (rw [if_pos c8, if_pos c20]; exact hP))
        exact W.iret (v := 0) hx hb hr (fun τ hτ hW => ⟨⟨_, (), rfl, (by first | ((obtain rfl : r = 0 := by omega); unfold o_pass; rw [if_pos c8, if_neg c20]; simp only [clI (show e9 < 80 by omega)]; rw [hv]; rfl) | (unfold o_pass; first | (rw [if_neg c8]; rfl) | (rw [if_pos c8, if_pos c20]; rfl))), yPt hPf hτ⟩, hS.F hτ⟩) hS.2.2 dX3_pass_61
      · skip
        refine lv_aload_n hx hb dX3_pass_40 rfl (lv_at hl 2 rfl) ?_
        refine va_get (D := G) (ci := 5) (v := .int 1) (C := RX3) (T := TX3) (N := 19) hx hb hts hinX3 hown hK hP 0 rfl rfl 18 (by decide) fl57 (fun _ h9 => h9) rfl dX3_pass_41 ?_
        refine lv_if_ne (tgt := 60) hx hb dX3_pass_44 (by decide) (fun _ => ?_) (fun c9 => absurd c9 (by decide))
        refine lv_iload_n hx hb dX3_pass_60 rfl (lv_at hl 1 rfl) ?_
        have hPf : va_P G vwCl (W3 k a C n0 ((o_pass dd C n0 M n1 d).2.1.2.1) ((o_pass dd C n0 M n1 d).2.1.2.2) ((o_pass dd C n0 M n1 d).2.2) ((o_pass dd C n0 M n1 d).1)) H := by first | ((obtain rfl : r = 0 := by omega); unfold o_pass; rw [if_pos c8, if_neg c20]; simp only [clI (show e9 < 80 by omega)]; (obtain rfl : z9 = e9 := by omega); rw [hv]; rw [hd9] at hP; exact hP) | (unfold o_pass; first | (rw [if_neg c8]; exact hP) | (rw [if_pos c8, if_pos c20]; exact hP))
        exact W.iret (v := 0) hx hb hr (fun τ hτ hW => ⟨⟨_, (), rfl, (by first | ((obtain rfl : r = 0 := by omega); unfold o_pass; rw [if_pos c8, if_neg c20]; simp only [clI (show e9 < 80 by omega)]; rw [hv]; rfl) | (unfold o_pass; first | (rw [if_neg c8]; rfl) | (rw [if_pos c8, if_pos c20]; rfl))), yPt hPf hτ⟩, hS.F hτ⟩) hS.2.2 dX3_pass_61
    · obtain ⟨e9, he9, rfl⟩ := nI_of2 (M := 30) (n := 30) rfl (fun h9 => absurd c8.1 (by have := Int32.lt_of_lt_of_le (show (0:Int32) < 1 by decide) c8.1; exact absurd h9 (Int32.lt_asymm this))) c8.2
      refine lv_iconst (v := 0) hx hb dX3_pass_23 (by decide) ?_
      refine lv_goto (tgt := 28) hx hb dX3_pass_24 (by decide) ?_
      refine va_put (D := G) (ci := 5) (v := .int 0) (ty := .int) (C := RX3) (T := TX3) (N := 19) hx hb hts hinX3 tyX3 tyX3_ok nmX3 hown hK hP hD hS 0 rfl rfl 18 (by decide) fl57 (fun _ h9 => h9) rfl (by decide +kernel) rfl rfl (Nat.le_of_ble_eq_true rfl) dX3_pass_28 (fun H locs hP hD hS => ?_)
      have hP : va_P G vwCl (W3 k a C n0 M n1 d 0) H := hP
      have hD : va_D A (W3 k a C n0 M n1 d 0) := hD
      refine lv_iconst (v := 0) hx hb dX3_pass_31 (by decide) ?_
      refine lv_istore_n (lv' := [(2, .int 0), (0, .ref (a 0)), (1, .int (nI e9))]) hx hb dX3_pass_32 rfl hl (by decide) rfl (fun ls hl => ?_)
      refine lv_iconst (v := 0) hx hb dX3_pass_33 (by decide) ?_
      refine lv_istore_n (lv' := [(3, .int 0), (2, .int 0), (0, .ref (a 0)), (1, .int (nI e9))]) hx hb dX3_pass_34 rfl hl (by decide) rfl (fun ls hl => ?_)
      have hl : lv_has ls 4 [(3, .int (nI 0)), (2, .int (nI 0)), (0, .ref (a 0)), (1, .int (nI e9))] := lv_sub hl [0, 1, 2, 3] rfl
      refine y_loop (σ := Nat × Nat × (Nat → Nat → Int32) × Nat × Nat) (fun r xσ H locs ls => xσ.2.1 + r = e9 ∧ xσ.2.2.2.1 ≤ 80 ∧ xσ.1 ≤ 8 * xσ.2.1 ∧ xσ.2.2.2.2 = d + xσ.2.1 ∧ pds C n0 e9 d (0, M, n1) = pds C n0 r xσ.2.2.2.2 (xσ.1, xσ.2.2.1, xσ.2.2.2.1) ∧ va_P G vwCl (W3 k a C n0 xσ.2.2.1 xσ.2.2.2.1 xσ.2.2.2.2 0) H ∧ va_D A (W3 k a C n0 xσ.2.2.1 xσ.2.2.2.1 xσ.2.2.2.2 0) ∧ va_S A s.heap H locs ∧ lv_has ls 4 [(3, .int (nI xσ.2.1)), (2, .int (nI xσ.1)), (0, .ref (a 0)), (1, .int (nI e9))]) (fun r xσ H locs ls hI ih35 => ?_) e9 (0, 0, M, n1, d) _ _ _ ⟨(by dsimp only; omega), hn1, (Nat.le_refl 0), rfl, rfl, hP, hD, hS, hl⟩
      obtain ⟨po, z9, N, m2, d9⟩ := xσ
      obtain ⟨hz, hm2, hpo, hd9, hv, hP, hD, hS, hl⟩ := hI
      dsimp only at hz hm2 hpo hd9 hv hP hD hl
      refine lv_iload_n hx hb dX3_pass_35 rfl (lv_at hl 0 rfl) ?_
      refine lv_iload_n hx hb dX3_pass_36 rfl (lv_at hl 3 rfl) ?_
      refine lv_icmp_ge (tgt := 60) hx hb dX3_pass_37 (by decide) (fun c37 => ?_) (fun c37 => ?_)
      · replace c37 : e9 ≤ z9 := (nI_leI (a := e9) (b := z9) (by omega) (by omega)).mp c37
        refine lv_iload_n hx hb dX3_pass_60 rfl (lv_at hl 1 rfl) ?_
        have hPf : va_P G vwCl (W3 k a C n0 ((o_pass (nI e9) C n0 M n1 d).2.1.2.1) ((o_pass (nI e9) C n0 M n1 d).2.1.2.2) ((o_pass (nI e9) C n0 M n1 d).2.2) ((o_pass (nI e9) C n0 M n1 d).1)) H := by first | ((obtain rfl : r = 0 := by omega); unfold o_pass; rw [if_pos c8, if_neg c20]; simp only [clI (show e9 < 80 by omega)]; (obtain rfl : z9 = e9 := by omega); rw [hv]; rw [hd9] at hP; exact hP) | (unfold o_pass; first | (rw [if_neg c8]; exact hP) | (rw [if_pos c8, if_pos c20]; exact hP))
        exact W.iret (v := (nI po)) hx hb hr (fun τ hτ hW => ⟨⟨_, (), rfl, (by first | ((obtain rfl : r = 0 := by omega); unfold o_pass; rw [if_pos c8, if_neg c20]; simp only [clI (show e9 < 80 by omega)]; rw [hv]; rfl) | (unfold o_pass; first | (rw [if_neg c8]; rfl) | (rw [if_pos c8, if_pos c20]; rfl))), yPt hPf hτ⟩, hS.F hτ⟩) hS.2.2 dX3_pass_61
      · replace c37 : ¬ e9 ≤ z9 := fun h9 => c37 ((nI_leI (a := e9) (b := z9) (by omega) (by omega)).mpr h9)
        obtain ⟨r', rfl⟩ : ∃ r', r = r' + 1 := ⟨r - 1, by omega⟩
        refine lv_aload_n hx hb dX3_pass_40 rfl (lv_at hl 2 rfl) ?_
        refine va_get (D := G) (ci := 5) (v := .int 0) (C := RX3) (T := TX3) (N := 19) hx hb hts hinX3 hown hK hP 0 rfl rfl 18 (by decide) fl57 (fun _ h9 => h9) rfl dX3_pass_41 ?_
        refine lv_if_ne (tgt := 60) hx hb dX3_pass_44 (by decide) (fun c9 => absurd c9 (by decide)) (fun _ => ?_)
        refine lv_iload_n hx hb dX3_pass_47 rfl (lv_at hl 1 rfl) ?_
        refine lv_aload_n hx hb dX3_pass_48 rfl (lv_at hl 2 rfl) ?_
        have hfr9 : ∀ q, va_A (W3 k a C n0 N m2 d9 0) _ q → A q := va_free hD hS hA [0, 1, 2, 3, 4, 5, 6, 7, 8, 9, 10, 11, 12, 13, 14, 15] rfl
        refine y_rwV (w := W3 k a C n0 N m2 d9 0) (w' := fun (_ : Unit) => W3 k a C n0 ((pdm C n0 d9 N m2).2.1) ((pdm C n0 d9 N m2).2.2) (d9 + 1) 0) (As := []) (rest := [.int (nI po)]) ⟨hx, hb, hml, hown, hts⟩ (c_X3_passes l G k a C n0 N m2 d9 0 _  (yD hND rfl) (by omega) (by omega)) (cwV 0 hts gX3_pass_X3_passes rfl rfl rfl (by decide +kernel) ⟨Nat.le_of_ble_eq_true rfl, Nat.le_of_ble_eq_true rfl⟩) hK hP (va_recv hK hP (ci := 5) (q0 := 0) rfl rfl) hS hfr9 rfl hl.1 rfl (Nat.le_of_ble_eq_true rfl) dX3_pass_49 ⟨Nat.le_of_ble_eq_true rfl, Nat.le_of_ble_eq_true rfl⟩ (fun r u9 H1 locs1 hr9 hP9 hz9 hk9 hS9 => ?_)
        have hP9 : va_P G vwCl (W3 k a C n0 ((pdm C n0 d9 N m2).2.1) ((pdm C n0 d9 N m2).2.2) (d9 + 1) 0) H1 := hP9
        have hD9 : va_D A (W3 k a C n0 ((pdm C n0 d9 N m2).2.1) ((pdm C n0 d9 N m2).2.2) (d9 + 1) 0) := yD hD rfl
        clear hP hD hS hfr9 hz9 hk9
        have hP := hP9
        have hD := hD9
        have hS := hS9
        clear hP9 hD9 hS9
        subst hr9
        refine lv_iadd hx hb dX3_pass_52 ?_
        refine y_top (nI_add po ((pdm C n0 d9 N m2).1)) ?_
        refine lv_istore_n (lv' := [(2, .int (nI (po + (pdm C n0 d9 N m2).1))), (3, .int (nI z9)), (0, .ref (a 0)), (1, .int (nI e9))]) hx hb dX3_pass_53 rfl hl (by decide) rfl (fun ls hl => ?_)
        refine lv_iinc (v := nI (z9 + 1)) (lv' := [(3, .int (nI (z9 + 1))), (2, .int (nI (po + (pdm C n0 d9 N m2).1))), (0, .ref (a 0)), (1, .int (nI e9))]) hx hb dX3_pass_54 hl (k := 1) rfl (nI_1 z9) (by decide) rfl (fun ls hl => ?_)
        refine lv_goto (tgt := 35) hx hb dX3_pass_57 (by decide) ?_
        exact ih35 r' (po + (pdm C n0 d9 N m2).1, z9 + 1, (pdm C n0 d9 N m2).2.1, (pdm C n0 d9 N m2).2.2, d9 + 1) _ _ _ (by omega) ⟨(by dsimp only; omega), (pdm_n hm2).1, (by have := (pdm_n (C := C) (n0 := n0) (d := d9) (M := N) hm2).2; dsimp only; omega), (by dsimp only; omega), (by rw [hv]; rfl), hP, hD, hS, lv_sub hl [0, 1, 2, 3] rfl⟩

set_option maxHeartbeats 4000000 in
set_option maxRecDepth 100000 in
theorem c_X3_day (l : Launch) (G : va_G) (k : Nat → ClassId) (a : Nat → Nat) (C : Nat → Nat → Int32) (n0 : Nat) (M : Nat → Nat → Int32) (n1 : Nat) (d : Nat) (th : Int32) (sz : Nat)  (hND : va_D (fun _ => True) (W3 k a C n0 M n1 d th))  : Met l yX3_day wsX3_day ({ frames := 0, cells := 0, slots := 0, locals := 0 }) (va_Pc [.ref (a 0)] (yBs G (yT k) (W3 k a C n0 M n1 d th) sz)) (va_Qi (fun (r : Int32) (_ : Unit) => r = nI d) (fun _ τ => va_P G vwCl (W3 k a C n0 M n1 d 0) τ.heap) (va_A (W3 k a C n0 M n1 d th) sz)) 0 0 (va_A (W3 k a C n0 M n1 d th) sz) := by
  refine Met.ofW (cc := cX3_day) (maxL := 1) (ret := (some .int)) (by decide) rfl ?_
  intro p e s m args below meth c_ s₁ B hml hv
  obtain ⟨rfl, hsz, hP, hK⟩ := hv
  have hx := B.exec
  have hb := B.bytes
  have hr := B.returns
  have hts := atoms_spec (ws := wsX3_day) B.pre
  have hown : s.vm.findClass RX3 = some m.cls := findClass_of_methodNamed B.named
  have hlocks := B.notSynchronized
  have hsz0 : (8 : Nat) < 2 ^ 31 := by decide
  have hsz1 : (80 : Nat) < 2 ^ 31 := by decide
  subst hsz
  have hD := hND.self (sz := s.heap.size)
  generalize hAe : va_A (W3 k a C n0 M n1 d th) s.heap.size = A at hD ⊢
  have hA : ∀ q : Nat, s.heap.size ≤ q → A q := fun q h => by rw [← hAe]; exact Or.inr h
  have hS : va_S A s.heap s.heap [] := va_S.rf
  have hinX3 : ∀ w ∈ u_ws RX3 TX3 19, w ∈ wsX3_day := by decide +kernel
  have fl57 := hts (.fieldLink RX3 57 "DunningDeskModel" "thrown" "I") (by decide +kernel)
  have fl71 := hts (.fieldLink RX3 71 "DunningDeskModel" "day" "I") (by decide +kernel)
  have hl := lv_entry [.ref (a 0)] (n := 1) (Nat.le_of_ble_eq_true rfl)
  rw [lg_entry_eq]
  generalize (lg_sl [.ref (a 0)] ++ List.replicate (1 - (lg_sl [.ref (a 0)]).length) Slot.unset).toArray = ls at hl ⊢
  have hl : lv_has ls 1 [(0, .ref (a 0))] := hl
  refine lv_aload_n hx hb dX3_day_0 rfl (lv_at hl 0 rfl) ?_
  refine lv_iconst (v := 0) hx hb dX3_day_1 (by decide) ?_
  refine va_put (D := G) (ci := 5) (v := .int 0) (ty := .int) (C := RX3) (T := TX3) (N := 19) hx hb hts hinX3 tyX3 tyX3_ok nmX3 hown hK hP hD hS 0 rfl rfl 18 (by decide) fl57 (fun _ h9 => h9) rfl (by decide +kernel) rfl rfl (Nat.le_of_ble_eq_true rfl) dX3_day_2 (fun H locs hP hD hS => ?_)
  have hP : va_P G vwCl (W3 k a C n0 M n1 d 0) H := hP
  have hD : va_D A (W3 k a C n0 M n1 d 0) := hD
  refine lv_aload_n hx hb dX3_day_5 rfl (lv_at hl 0 rfl) ?_
  refine va_get (D := G) (ci := 5) (v := .int (nI d)) (C := RX3) (T := TX3) (N := 19) hx hb hts hinX3 hown hK hP 0 rfl rfl 17 (by decide) fl71 (fun _ h9 => h9) rfl dX3_day_6 ?_
  have hPf : va_P G vwCl (W3 k a C n0 M n1 d 0) H := by exact hP
  exact W.iret (v := (nI d)) hx hb hr (fun τ hτ hW => ⟨⟨_, (), rfl, (by rfl), yPt hPf hτ⟩, hS.F hτ⟩) hS.2.2 dX3_day_9

set_option maxHeartbeats 4000000 in
set_option maxRecDepth 100000 in
theorem c_X3_count (l : Launch) (G : va_G) (k : Nat → ClassId) (a : Nat → Nat) (C : Nat → Nat → Int32) (n0 : Nat) (M : Nat → Nat → Int32) (n1 : Nat) (d : Nat) (th : Int32) (sz : Nat) (w : Int32) (hND : va_D (fun _ => True) (W3 k a C n0 M n1 d th)) (hn1 : n1 ≤ 80) : Met l yX3_count wsX3_count ({ frames := 1, cells := 0, slots := 0, locals := 23 }) (va_Pc [.ref (a 0), .int w] (yBs G (yT k) (W3 k a C n0 M n1 d th) sz)) (va_Qi (fun (r : Int32) (_ : Unit) => r = (o_count w M n1).2) (fun _ τ => va_P G vwCl (W3 k a C n0 M n1 d ((o_count w M n1).1)) τ.heap) (va_A (W3 k a C n0 M n1 d th) sz)) 0 0 (va_A (W3 k a C n0 M n1 d th) sz) := by
  refine Met.ofW (cc := cX3_count) (maxL := 2) (ret := (some .int)) (by decide) rfl ?_
  intro p e s m args below meth c_ s₁ B hml hv
  obtain ⟨rfl, hsz, hP, hK⟩ := hv
  have hx := B.exec
  have hb := B.bytes
  have hr := B.returns
  have hts := atoms_spec (ws := wsX3_count) B.pre
  have hown : s.vm.findClass RX3 = some m.cls := findClass_of_methodNamed B.named
  have hlocks := B.notSynchronized
  have hsz0 : (8 : Nat) < 2 ^ 31 := by decide
  have hsz1 : (80 : Nat) < 2 ^ 31 := by decide
  subst hsz
  have hD := hND.self (sz := s.heap.size)
  generalize hAe : va_A (W3 k a C n0 M n1 d th) s.heap.size = A at hD ⊢
  have hA : ∀ q : Nat, s.heap.size ≤ q → A q := fun q h => by rw [← hAe]; exact Or.inr h
  have hS : va_S A s.heap s.heap [] := va_S.rf
  have hinX3 : ∀ w ∈ u_ws RX3 TX3 19, w ∈ wsX3_count := by decide +kernel
  have fl57 := hts (.fieldLink RX3 57 "DunningDeskModel" "thrown" "I") (by decide +kernel)
  have hl := lv_entry [.ref (a 0), .int w] (n := 2) (Nat.le_of_ble_eq_true rfl)
  rw [lg_entry_eq]
  generalize (lg_sl [.ref (a 0), .int w] ++ List.replicate (2 - (lg_sl [.ref (a 0), .int w]).length) Slot.unset).toArray = ls at hl ⊢
  have hl : lv_has ls 2 [(0, .ref (a 0)), (1, .int w)] := hl
  refine lv_aload_n hx hb dX3_count_0 rfl (lv_at hl 0 rfl) ?_
  refine lv_iload_n hx hb dX3_count_1 rfl (lv_at hl 1 rfl) ?_
  refine lv_bipush (v := 104) hx hb dX3_count_2 (by decide) ?_
  refine lv_icmp_eq (tgt := 31) hx hb dX3_count_4 (by decide) (fun c4 => ?_) (fun c4 => ?_)
  · skip
    refine lv_iconst (v := 0) hx hb dX3_count_31 (by decide) ?_
    refine lv_goto (tgt := 36) hx hb dX3_count_32 (by decide) ?_
    refine va_put (D := G) (ci := 5) (v := .int 0) (ty := .int) (C := RX3) (T := TX3) (N := 19) hx hb hts hinX3 tyX3 tyX3_ok nmX3 hown hK hP hD hS 0 rfl rfl 18 (by decide) fl57 (fun _ h9 => h9) rfl (by decide +kernel) rfl rfl (Nat.le_of_ble_eq_true rfl) dX3_count_36 (fun H locs hP hD hS => ?_)
    have hP : va_P G vwCl (W3 k a C n0 M n1 d 0) H := hP
    have hD : va_D A (W3 k a C n0 M n1 d 0) := hD
    refine lv_aload_n hx hb dX3_count_39 rfl (lv_at hl 0 rfl) ?_
    refine va_get (D := G) (ci := 5) (v := .int 0) (C := RX3) (T := TX3) (N := 19) hx hb hts hinX3 hown hK hP 0 rfl rfl 18 (by decide) fl57 (fun _ h9 => h9) rfl dX3_count_40 ?_
    refine lv_if_le (tgt := 50) hx hb dX3_count_43 (by decide) (fun _ => ?_) (fun c9 => absurd c9 (by decide))
    refine lv_aload_n hx hb dX3_count_50 rfl (lv_at hl 0 rfl) ?_
    refine lv_iload_n hx hb dX3_count_51 rfl (lv_at hl 1 rfl) ?_
    refine y_roV (As := [.int w]) (rest := []) ⟨hx, hb, hml, hown, hts⟩ (c_X3_in_ l G k a C n0 M n1 d 0 w (by omega)) (cwV 1 hts gX3_count_X3_in_ rfl rfl rfl (by decide +kernel) ⟨Nat.le_of_ble_eq_true rfl, Nat.le_of_ble_eq_true rfl⟩) hK hP (va_recv hK hP (ci := 5) (q0 := 0) rfl rfl) rfl hl.1 rfl (Nat.le_of_ble_eq_true rfl) dX3_count_52 ⟨Nat.le_of_ble_eq_true rfl, Nat.le_of_ble_eq_true rfl⟩ (fun r hr9 => ?_)
    subst hr9
    have hPf : va_P G vwCl (W3 k a C n0 M n1 d ((o_count w M n1).1)) H := by unfold o_count; first | (rw [if_neg (fun h9 => h9.elim c4 (fun h => h.elim c10 (fun h => h.elim c16 (fun h => h.elim c22 c28))))]; exact hP) | (rw [if_pos (show oks w from by first | exact Or.inl c4 | exact Or.inr (Or.inl c10) | exact Or.inr (Or.inr (Or.inl c16)) | exact Or.inr (Or.inr (Or.inr (Or.inl c22))) | exact Or.inr (Or.inr (Or.inr (Or.inr c28))))]; exact hP)
    exact W.iret (v := (nI (cnt (fun z => decide (M 5 z = w)) n1 0 0))) hx hb hr (fun τ hτ hW => ⟨⟨_, (), rfl, (by unfold o_count; first | (rw [if_neg (fun h9 => h9.elim c4 (fun h => h.elim c10 (fun h => h.elim c16 (fun h => h.elim c22 c28))))]; done) | (rw [if_pos (show oks w from by first | exact Or.inl c4 | exact Or.inr (Or.inl c10) | exact Or.inr (Or.inr (Or.inl c16)) | exact Or.inr (Or.inr (Or.inr (Or.inl c22))) | exact Or.inr (Or.inr (Or.inr (Or.inr c28))))]; done)), yPt hPf hτ⟩, hS.F hτ⟩) hS.2.2 dX3_count_55
  · skip
    refine lv_iload_n hx hb dX3_count_7 rfl (lv_at hl 1 rfl) ?_
    refine lv_bipush (v := 119) hx hb dX3_count_8 (by decide) ?_
    refine lv_icmp_eq (tgt := 31) hx hb dX3_count_10 (by decide) (fun c10 => ?_) (fun c10 => ?_)
    · skip
      refine lv_iconst (v := 0) hx hb dX3_count_31 (by decide) ?_
      refine lv_goto (tgt := 36) hx hb dX3_count_32 (by decide) ?_
      refine va_put (D := G) (ci := 5) (v := .int 0) (ty := .int) (C := RX3) (T := TX3) (N := 19) hx hb hts hinX3 tyX3 tyX3_ok nmX3 hown hK hP hD hS 0 rfl rfl 18 (by decide) fl57 (fun _ h9 => h9) rfl (by decide +kernel) rfl rfl (Nat.le_of_ble_eq_true rfl) dX3_count_36 (fun H locs hP hD hS => ?_)
      have hP : va_P G vwCl (W3 k a C n0 M n1 d 0) H := hP
      have hD : va_D A (W3 k a C n0 M n1 d 0) := hD
      refine lv_aload_n hx hb dX3_count_39 rfl (lv_at hl 0 rfl) ?_
      refine va_get (D := G) (ci := 5) (v := .int 0) (C := RX3) (T := TX3) (N := 19) hx hb hts hinX3 hown hK hP 0 rfl rfl 18 (by decide) fl57 (fun _ h9 => h9) rfl dX3_count_40 ?_
      refine lv_if_le (tgt := 50) hx hb dX3_count_43 (by decide) (fun _ => ?_) (fun c9 => absurd c9 (by decide))
      refine lv_aload_n hx hb dX3_count_50 rfl (lv_at hl 0 rfl) ?_
      refine lv_iload_n hx hb dX3_count_51 rfl (lv_at hl 1 rfl) ?_
      refine y_roV (As := [.int w]) (rest := []) ⟨hx, hb, hml, hown, hts⟩ (c_X3_in_ l G k a C n0 M n1 d 0 w (by omega)) (cwV 1 hts gX3_count_X3_in_ rfl rfl rfl (by decide +kernel) ⟨Nat.le_of_ble_eq_true rfl, Nat.le_of_ble_eq_true rfl⟩) hK hP (va_recv hK hP (ci := 5) (q0 := 0) rfl rfl) rfl hl.1 rfl (Nat.le_of_ble_eq_true rfl) dX3_count_52 ⟨Nat.le_of_ble_eq_true rfl, Nat.le_of_ble_eq_true rfl⟩ (fun r hr9 => ?_)
      subst hr9
      have hPf : va_P G vwCl (W3 k a C n0 M n1 d ((o_count w M n1).1)) H := by unfold o_count; first | (rw [if_neg (fun h9 => h9.elim c4 (fun h => h.elim c10 (fun h => h.elim c16 (fun h => h.elim c22 c28))))]; exact hP) | (rw [if_pos (show oks w from by first | exact Or.inl c4 | exact Or.inr (Or.inl c10) | exact Or.inr (Or.inr (Or.inl c16)) | exact Or.inr (Or.inr (Or.inr (Or.inl c22))) | exact Or.inr (Or.inr (Or.inr (Or.inr c28))))]; exact hP)
      exact W.iret (v := (nI (cnt (fun z => decide (M 5 z = w)) n1 0 0))) hx hb hr (fun τ hτ hW => ⟨⟨_, (), rfl, (by unfold o_count; first | (rw [if_neg (fun h9 => h9.elim c4 (fun h => h.elim c10 (fun h => h.elim c16 (fun h => h.elim c22 c28))))]; done) | (rw [if_pos (show oks w from by first | exact Or.inl c4 | exact Or.inr (Or.inl c10) | exact Or.inr (Or.inr (Or.inl c16)) | exact Or.inr (Or.inr (Or.inr (Or.inl c22))) | exact Or.inr (Or.inr (Or.inr (Or.inr c28))))]; done)), yPt hPf hτ⟩, hS.F hτ⟩) hS.2.2 dX3_count_55
    · skip
      refine lv_iload_n hx hb dX3_count_13 rfl (lv_at hl 1 rfl) ?_
      refine lv_bipush (v := 116) hx hb dX3_count_14 (by decide) ?_
      refine lv_icmp_eq (tgt := 31) hx hb dX3_count_16 (by decide) (fun c16 => ?_) (fun c16 => ?_)
      · skip
        refine lv_iconst (v := 0) hx hb dX3_count_31 (by decide) ?_
        refine lv_goto (tgt := 36) hx hb dX3_count_32 (by decide) ?_
        refine va_put (D := G) (ci := 5) (v := .int 0) (ty := .int) (C := RX3) (T := TX3) (N := 19) hx hb hts hinX3 tyX3 tyX3_ok nmX3 hown hK hP hD hS 0 rfl rfl 18 (by decide) fl57 (fun _ h9 => h9) rfl (by decide +kernel) rfl rfl (Nat.le_of_ble_eq_true rfl) dX3_count_36 (fun H locs hP hD hS => ?_)
        have hP : va_P G vwCl (W3 k a C n0 M n1 d 0) H := hP
        have hD : va_D A (W3 k a C n0 M n1 d 0) := hD
        refine lv_aload_n hx hb dX3_count_39 rfl (lv_at hl 0 rfl) ?_
        refine va_get (D := G) (ci := 5) (v := .int 0) (C := RX3) (T := TX3) (N := 19) hx hb hts hinX3 hown hK hP 0 rfl rfl 18 (by decide) fl57 (fun _ h9 => h9) rfl dX3_count_40 ?_
        refine lv_if_le (tgt := 50) hx hb dX3_count_43 (by decide) (fun _ => ?_) (fun c9 => absurd c9 (by decide))
        refine lv_aload_n hx hb dX3_count_50 rfl (lv_at hl 0 rfl) ?_
        refine lv_iload_n hx hb dX3_count_51 rfl (lv_at hl 1 rfl) ?_
        refine y_roV (As := [.int w]) (rest := []) ⟨hx, hb, hml, hown, hts⟩ (c_X3_in_ l G k a C n0 M n1 d 0 w (by omega)) (cwV 1 hts gX3_count_X3_in_ rfl rfl rfl (by decide +kernel) ⟨Nat.le_of_ble_eq_true rfl, Nat.le_of_ble_eq_true rfl⟩) hK hP (va_recv hK hP (ci := 5) (q0 := 0) rfl rfl) rfl hl.1 rfl (Nat.le_of_ble_eq_true rfl) dX3_count_52 ⟨Nat.le_of_ble_eq_true rfl, Nat.le_of_ble_eq_true rfl⟩ (fun r hr9 => ?_)
        subst hr9
        have hPf : va_P G vwCl (W3 k a C n0 M n1 d ((o_count w M n1).1)) H := by unfold o_count; first | (rw [if_neg (fun h9 => h9.elim c4 (fun h => h.elim c10 (fun h => h.elim c16 (fun h => h.elim c22 c28))))]; exact hP) | (rw [if_pos (show oks w from by first | exact Or.inl c4 | exact Or.inr (Or.inl c10) | exact Or.inr (Or.inr (Or.inl c16)) | exact Or.inr (Or.inr (Or.inr (Or.inl c22))) | exact Or.inr (Or.inr (Or.inr (Or.inr c28))))]; exact hP)
        exact W.iret (v := (nI (cnt (fun z => decide (M 5 z = w)) n1 0 0))) hx hb hr (fun τ hτ hW => ⟨⟨_, (), rfl, (by unfold o_count; first | (rw [if_neg (fun h9 => h9.elim c4 (fun h => h.elim c10 (fun h => h.elim c16 (fun h => h.elim c22 c28))))]; done) | (rw [if_pos (show oks w from by first | exact Or.inl c4 | exact Or.inr (Or.inl c10) | exact Or.inr (Or.inr (Or.inl c16)) | exact Or.inr (Or.inr (Or.inr (Or.inl c22))) | exact Or.inr (Or.inr (Or.inr (Or.inr c28))))]; done)), yPt hPf hτ⟩, hS.F hτ⟩) hS.2.2 dX3_count_55
      · skip
        refine lv_iload_n hx hb dX3_count_19 rfl (lv_at hl 1 rfl) ?_
        refine lv_bipush (v := 100) hx hb dX3_count_20 (by decide) ?_
        refine lv_icmp_eq (tgt := 31) hx hb dX3_count_22 (by decide) (fun c22 => ?_) (fun c22 => ?_)
        · skip
          refine lv_iconst (v := 0) hx hb dX3_count_31 (by decide) ?_
          refine lv_goto (tgt := 36) hx hb dX3_count_32 (by decide) ?_
          refine va_put (D := G) (ci := 5) (v := .int 0) (ty := .int) (C := RX3) (T := TX3) (N := 19) hx hb hts hinX3 tyX3 tyX3_ok nmX3 hown hK hP hD hS 0 rfl rfl 18 (by decide) fl57 (fun _ h9 => h9) rfl (by decide +kernel) rfl rfl (Nat.le_of_ble_eq_true rfl) dX3_count_36 (fun H locs hP hD hS => ?_)
          have hP : va_P G vwCl (W3 k a C n0 M n1 d 0) H := hP
          have hD : va_D A (W3 k a C n0 M n1 d 0) := hD
          refine lv_aload_n hx hb dX3_count_39 rfl (lv_at hl 0 rfl) ?_
          refine va_get (D := G) (ci := 5) (v := .int 0) (C := RX3) (T := TX3) (N := 19) hx hb hts hinX3 hown hK hP 0 rfl rfl 18 (by decide) fl57 (fun _ h9 => h9) rfl dX3_count_40 ?_
          refine lv_if_le (tgt := 50) hx hb dX3_count_43 (by decide) (fun _ => ?_) (fun c9 => absurd c9 (by decide))
          refine lv_aload_n hx hb dX3_count_50 rfl (lv_at hl 0 rfl) ?_
          refine lv_iload_n hx hb dX3_count_51 rfl (lv_at hl 1 rfl) ?_
          refine y_roV (As := [.int w]) (rest := []) ⟨hx, hb, hml, hown, hts⟩ (c_X3_in_ l G k a C n0 M n1 d 0 w (by omega)) (cwV 1 hts gX3_count_X3_in_ rfl rfl rfl (by decide +kernel) ⟨Nat.le_of_ble_eq_true rfl, Nat.le_of_ble_eq_true rfl⟩) hK hP (va_recv hK hP (ci := 5) (q0 := 0) rfl rfl) rfl hl.1 rfl (Nat.le_of_ble_eq_true rfl) dX3_count_52 ⟨Nat.le_of_ble_eq_true rfl, Nat.le_of_ble_eq_true rfl⟩ (fun r hr9 => ?_)
          subst hr9
          have hPf : va_P G vwCl (W3 k a C n0 M n1 d ((o_count w M n1).1)) H := by unfold o_count; first | (rw [if_neg (fun h9 => h9.elim c4 (fun h => h.elim c10 (fun h => h.elim c16 (fun h => h.elim c22 c28))))]; exact hP) | (rw [if_pos (show oks w from by first | exact Or.inl c4 | exact Or.inr (Or.inl c10) | exact Or.inr (Or.inr (Or.inl c16)) | exact Or.inr (Or.inr (Or.inr (Or.inl c22))) | exact Or.inr (Or.inr (Or.inr (Or.inr c28))))]; exact hP)
          exact W.iret (v := (nI (cnt (fun z => decide (M 5 z = w)) n1 0 0))) hx hb hr (fun τ hτ hW => ⟨⟨_, (), rfl, (by unfold o_count; first | (rw [if_neg (fun h9 => h9.elim c4 (fun h => h.elim c10 (fun h => h.elim c16 (fun h => h.elim c22 c28))))]; done) | (rw [if_pos (show oks w from by first | exact Or.inl c4 | exact Or.inr (Or.inl c10) | exact Or.inr (Or.inr (Or.inl c16)) | exact Or.inr (Or.inr (Or.inr (Or.inl c22))) | exact Or.inr (Or.inr (Or.inr (Or.inr c28))))]; done)), yPt hPf hτ⟩, hS.F hτ⟩) hS.2.2 dX3_count_55
        · skip
          refine lv_iload_n hx hb dX3_count_25 rfl (lv_at hl 1 rfl) ?_
          refine lv_bipush (v := 120) hx hb dX3_count_26 (by decide) ?_
          refine lv_icmp_ne (tgt := 35) hx hb dX3_count_28 (by decide) (fun c28 => ?_) (fun c28 => ?_)
          · skip
            refine lv_iconst (v := 1) hx hb dX3_count_35 (by decide) ?_
            refine va_put (D := G) (ci := 5) (v := .int 1) (ty := .int) (C := RX3) (T := TX3) (N := 19) hx hb hts hinX3 tyX3 tyX3_ok nmX3 hown hK hP hD hS 0 rfl rfl 18 (by decide) fl57 (fun _ h9 => h9) rfl (by decide +kernel) rfl rfl (Nat.le_of_ble_eq_true rfl) dX3_count_36 (fun H locs hP hD hS => ?_)
            have hP : va_P G vwCl (W3 k a C n0 M n1 d 1) H := hP
            have hD : va_D A (W3 k a C n0 M n1 d 1) := hD
            refine lv_aload_n hx hb dX3_count_39 rfl (lv_at hl 0 rfl) ?_
            refine va_get (D := G) (ci := 5) (v := .int 1) (C := RX3) (T := TX3) (N := 19) hx hb hts hinX3 hown hK hP 0 rfl rfl 18 (by decide) fl57 (fun _ h9 => h9) rfl dX3_count_40 ?_
            refine lv_if_le (tgt := 50) hx hb dX3_count_43 (by decide) (fun c9 => absurd c9 (by decide)) (fun _ => ?_)
            refine lv_iconst (v := 0) hx hb dX3_count_46 (by decide) ?_
            refine lv_goto (tgt := 55) hx hb dX3_count_47 (by decide) ?_
            have hPf : va_P G vwCl (W3 k a C n0 M n1 d ((o_count w M n1).1)) H := by unfold o_count; first | (rw [if_neg (fun h9 => h9.elim c4 (fun h => h.elim c10 (fun h => h.elim c16 (fun h => h.elim c22 c28))))]; exact hP) | (rw [if_pos (show oks w from by first | exact Or.inl c4 | exact Or.inr (Or.inl c10) | exact Or.inr (Or.inr (Or.inl c16)) | exact Or.inr (Or.inr (Or.inr (Or.inl c22))) | exact Or.inr (Or.inr (Or.inr (Or.inr c28))))]; exact hP)
            exact W.iret (v := 0) hx hb hr (fun τ hτ hW => ⟨⟨_, (), rfl, (by unfold o_count; first | (rw [if_neg (fun h9 => h9.elim c4 (fun h => h.elim c10 (fun h => h.elim c16 (fun h => h.elim c22 c28))))]; done) | (rw [if_pos (show oks w from by first | exact Or.inl c4 | exact Or.inr (Or.inl c10) | exact Or.inr (Or.inr (Or.inl c16)) | exact Or.inr (Or.inr (Or.inr (Or.inl c22))) | exact Or.inr (Or.inr (Or.inr (Or.inr c28))))]; done)), yPt hPf hτ⟩, hS.F hτ⟩) hS.2.2 dX3_count_55
          · skip
            refine lv_iconst (v := 0) hx hb dX3_count_31 (by decide) ?_
            refine lv_goto (tgt := 36) hx hb dX3_count_32 (by decide) ?_
            refine va_put (D := G) (ci := 5) (v := .int 0) (ty := .int) (C := RX3) (T := TX3) (N := 19) hx hb hts hinX3 tyX3 tyX3_ok nmX3 hown hK hP hD hS 0 rfl rfl 18 (by decide) fl57 (fun _ h9 => h9) rfl (by decide +kernel) rfl rfl (Nat.le_of_ble_eq_true rfl) dX3_count_36 (fun H locs hP hD hS => ?_)
            have hP : va_P G vwCl (W3 k a C n0 M n1 d 0) H := hP
            have hD : va_D A (W3 k a C n0 M n1 d 0) := hD
            refine lv_aload_n hx hb dX3_count_39 rfl (lv_at hl 0 rfl) ?_
            refine va_get (D := G) (ci := 5) (v := .int 0) (C := RX3) (T := TX3) (N := 19) hx hb hts hinX3 hown hK hP 0 rfl rfl 18 (by decide) fl57 (fun _ h9 => h9) rfl dX3_count_40 ?_
            refine lv_if_le (tgt := 50) hx hb dX3_count_43 (by decide) (fun _ => ?_) (fun c9 => absurd c9 (by decide))
            refine lv_aload_n hx hb dX3_count_50 rfl (lv_at hl 0 rfl) ?_
            refine lv_iload_n hx hb dX3_count_51 rfl (lv_at hl 1 rfl) ?_
            refine y_roV (As := [.int w]) (rest := []) ⟨hx, hb, hml, hown, hts⟩ (c_X3_in_ l G k a C n0 M n1 d 0 w (by omega)) (cwV 1 hts gX3_count_X3_in_ rfl rfl rfl (by decide +kernel) ⟨Nat.le_of_ble_eq_true rfl, Nat.le_of_ble_eq_true rfl⟩) hK hP (va_recv hK hP (ci := 5) (q0 := 0) rfl rfl) rfl hl.1 rfl (Nat.le_of_ble_eq_true rfl) dX3_count_52 ⟨Nat.le_of_ble_eq_true rfl, Nat.le_of_ble_eq_true rfl⟩ (fun r hr9 => ?_)
            subst hr9
            have hPf : va_P G vwCl (W3 k a C n0 M n1 d ((o_count w M n1).1)) H := by unfold o_count; first | (rw [if_neg (fun h9 => h9.elim c4 (fun h => h.elim c10 (fun h => h.elim c16 (fun h => h.elim c22 c28))))]; exact hP) | (rw [if_pos (show oks w from by first | exact Or.inl c4 | exact Or.inr (Or.inl c10) | exact Or.inr (Or.inr (Or.inl c16)) | exact Or.inr (Or.inr (Or.inr (Or.inl c22))) | exact Or.inr (Or.inr (Or.inr (Or.inr c28))))]; exact hP)
            exact W.iret (v := (nI (cnt (fun z => decide (M 5 z = w)) n1 0 0))) hx hb hr (fun τ hτ hW => ⟨⟨_, (), rfl, (by unfold o_count; first | (rw [if_neg (fun h9 => h9.elim c4 (fun h => h.elim c10 (fun h => h.elim c16 (fun h => h.elim c22 c28))))]; done) | (rw [if_pos (show oks w from by first | exact Or.inl c4 | exact Or.inr (Or.inl c10) | exact Or.inr (Or.inr (Or.inl c16)) | exact Or.inr (Or.inr (Or.inr (Or.inl c22))) | exact Or.inr (Or.inr (Or.inr (Or.inr c28))))]; done)), yPt hPf hτ⟩, hS.F hτ⟩) hS.2.2 dX3_count_55

set_option maxHeartbeats 4000000 in
set_option maxRecDepth 100000 in
theorem c_X3_doneShare (l : Launch) (G : va_G) (k : Nat → ClassId) (a : Nat → Nat) (C : Nat → Nat → Int32) (n0 : Nat) (M : Nat → Nat → Int32) (n1 : Nat) (d : Nat) (th : Int32) (sz : Nat)  (hND : va_D (fun _ => True) (W3 k a C n0 M n1 d th)) (hn1 : n1 ≤ 80) : Met l yX3_doneShare wsX3_doneShare ({ frames := 1, cells := 0, slots := 0, locals := 23 }) (va_Pc [.ref (a 0)] (yBs G (yT k) (W3 k a C n0 M n1 d th) sz)) (va_Qf (fun (r : UInt32) (_ : Unit) => r = (o_share M n1).2) (fun _ τ => va_P G vwCl (W3 k a C n0 M n1 d ((o_share M n1).1)) τ.heap) (va_A (W3 k a C n0 M n1 d th) sz)) 0 0 (va_A (W3 k a C n0 M n1 d th) sz) := by
  refine Met.ofW (cc := cX3_doneShare) (maxL := 1) (ret := (some .float)) (by decide) rfl ?_
  intro p e s m args below meth c_ s₁ B hml hv
  obtain ⟨rfl, hsz, hP, hK⟩ := hv
  have hx := B.exec
  have hb := B.bytes
  have hr := B.returns
  have hts := atoms_spec (ws := wsX3_doneShare) B.pre
  have hown : s.vm.findClass RX3 = some m.cls := findClass_of_methodNamed B.named
  have hlocks := B.notSynchronized
  have hsz0 : (8 : Nat) < 2 ^ 31 := by decide
  have hsz1 : (80 : Nat) < 2 ^ 31 := by decide
  subst hsz
  have hD := hND.self (sz := s.heap.size)
  generalize hAe : va_A (W3 k a C n0 M n1 d th) s.heap.size = A at hD ⊢
  have hA : ∀ q : Nat, s.heap.size ≤ q → A q := fun q h => by rw [← hAe]; exact Or.inr h
  have hS : va_S A s.heap s.heap [] := va_S.rf
  have hinX3 : ∀ w ∈ u_ws RX3 TX3 19, w ∈ wsX3_doneShare := by decide +kernel
  have fl68 := hts (.fieldLink RX3 68 "DunningDeskModel" "messages" "I") (by decide +kernel)
  have fl57 := hts (.fieldLink RX3 57 "DunningDeskModel" "thrown" "I") (by decide +kernel)
  have hl := lv_entry [.ref (a 0)] (n := 1) (Nat.le_of_ble_eq_true rfl)
  rw [lg_entry_eq]
  generalize (lg_sl [.ref (a 0)] ++ List.replicate (1 - (lg_sl [.ref (a 0)]).length) Slot.unset).toArray = ls at hl ⊢
  have hl : lv_has ls 1 [(0, .ref (a 0))] := hl
  refine lv_aload_n hx hb dX3_doneShare_0 rfl (lv_at hl 0 rfl) ?_
  refine lv_aload_n hx hb dX3_doneShare_1 rfl (lv_at hl 0 rfl) ?_
  refine va_get (D := G) (ci := 5) (v := .int (nI n1)) (C := RX3) (T := TX3) (N := 19) hx hb hts hinX3 hown hK hP 0 rfl rfl 16 (by decide) fl68 (fun _ h9 => h9) rfl dX3_doneShare_2 ?_
  refine lv_if_ne (tgt := 12) hx hb dX3_doneShare_5 (by decide) (fun c5 => ?_) (fun c5 => ?_)
  · replace c5 : ¬ n1 = 0 := fun h9 => c5 ((nI_eq (a := n1) (b := 0) (by omega) (by omega)).mpr h9)
    refine lv_iconst (v := 0) hx hb dX3_doneShare_12 (by decide) ?_
    refine va_put (D := G) (ci := 5) (v := .int 0) (ty := .int) (C := RX3) (T := TX3) (N := 19) hx hb hts hinX3 tyX3 tyX3_ok nmX3 hown hK hP hD hS 0 rfl rfl 18 (by decide) fl57 (fun _ h9 => h9) rfl (by decide +kernel) rfl rfl (Nat.le_of_ble_eq_true rfl) dX3_doneShare_13 (fun H locs hP hD hS => ?_)
    have hP : va_P G vwCl (W3 k a C n0 M n1 d 0) H := hP
    have hD : va_D A (W3 k a C n0 M n1 d 0) := hD
    refine lv_aload_n hx hb dX3_doneShare_16 rfl (lv_at hl 0 rfl) ?_
    refine va_get (D := G) (ci := 5) (v := .int 0) (C := RX3) (T := TX3) (N := 19) hx hb hts hinX3 hown hK hP 0 rfl rfl 18 (by decide) fl57 (fun _ h9 => h9) rfl dX3_doneShare_17 ?_
    refine lv_if_le (tgt := 27) hx hb dX3_doneShare_20 (by decide) (fun _ => ?_) (fun c9 => absurd c9 (by decide))
    refine lv_aload_n hx hb dX3_doneShare_27 rfl (lv_at hl 0 rfl) ?_
    refine lv_bipush (v := 100) hx hb dX3_doneShare_28 (by decide) ?_
    refine y_roV (As := [.int 100]) (rest := []) ⟨hx, hb, hml, hown, hts⟩ (c_X3_in_ l G k a C n0 M n1 d 0 100 (by omega)) (cwV 1 hts gX3_doneShare_X3_in_ rfl rfl rfl (by decide +kernel) ⟨Nat.le_of_ble_eq_true rfl, Nat.le_of_ble_eq_true rfl⟩) hK hP (va_recv hK hP (ci := 5) (q0 := 0) rfl rfl) rfl hl.1 rfl (Nat.le_of_ble_eq_true rfl) dX3_doneShare_30 ⟨Nat.le_of_ble_eq_true rfl, Nat.le_of_ble_eq_true rfl⟩ (fun r hr9 => ?_)
    subst hr9
    refine lv_i2f hx hb dX3_doneShare_33 ?_
    refine lv_aload_n hx hb dX3_doneShare_34 rfl (lv_at hl 0 rfl) ?_
    refine va_get (D := G) (ci := 5) (v := .int (nI n1)) (C := RX3) (T := TX3) (N := 19) hx hb hts hinX3 hown hK hP 0 rfl rfl 16 (by decide) fl68 (fun _ h9 => h9) rfl dX3_doneShare_35 ?_
    refine lv_i2f hx hb dX3_doneShare_38 ?_
    refine lv_fdiv hx hb dX3_doneShare_39 (y_fdiv (fun h9 => c5 ((nI_eq (a := n1) (b := 0) (by omega) (by omega)).mp h9))) ?_
    have hPf : va_P G vwCl (W3 k a C n0 M n1 d ((o_share M n1).1)) H := by unfold o_share; (all_goals try first | rw [if_pos c5] | rw [if_neg c5]); exact hP
    exact W.fret (v := (FP.fdiv (FP.i2f (nI (cnt (fun z => decide (M 5 z = 100)) n1 0 0))) (FP.i2f (nI n1)))) hx hb hr (fun τ hτ hW => ⟨⟨_, (), rfl, (by unfold o_share; (all_goals try first | rw [if_pos c5] | rw [if_neg c5]); (all_goals try rfl)), yPt hPf hτ⟩, hS.F hτ⟩) hS.2.2 dX3_doneShare_40
  · replace c5 : n1 = 0 := (nI_eq (a := n1) (b := 0) (by omega) (by omega)).mp c5
    refine lv_iconst (v := 1) hx hb dX3_doneShare_8 (by decide) ?_
    refine lv_goto (tgt := 13) hx hb dX3_doneShare_9 (by decide) ?_
    refine va_put (D := G) (ci := 5) (v := .int 1) (ty := .int) (C := RX3) (T := TX3) (N := 19) hx hb hts hinX3 tyX3 tyX3_ok nmX3 hown hK hP hD hS 0 rfl rfl 18 (by decide) fl57 (fun _ h9 => h9) rfl (by decide +kernel) rfl rfl (Nat.le_of_ble_eq_true rfl) dX3_doneShare_13 (fun H locs hP hD hS => ?_)
    have hP : va_P G vwCl (W3 k a C n0 M n1 d 1) H := hP
    have hD : va_D A (W3 k a C n0 M n1 d 1) := hD
    refine lv_aload_n hx hb dX3_doneShare_16 rfl (lv_at hl 0 rfl) ?_
    refine va_get (D := G) (ci := 5) (v := .int 1) (C := RX3) (T := TX3) (N := 19) hx hb hts hinX3 hown hK hP 0 rfl rfl 18 (by decide) fl57 (fun _ h9 => h9) rfl dX3_doneShare_17 ?_
    refine lv_if_le (tgt := 27) hx hb dX3_doneShare_20 (by decide) (fun c9 => absurd c9 (by decide)) (fun _ => ?_)
    refine lv_fconst0 hx hb dX3_doneShare_23 ?_
    refine lv_goto (tgt := 40) hx hb dX3_doneShare_24 (by decide) ?_
    have hPf : va_P G vwCl (W3 k a C n0 M n1 d ((o_share M n1).1)) H := by unfold o_share; (all_goals try first | rw [if_pos c5] | rw [if_neg c5]); exact hP
    exact W.fret (v := 0) hx hb hr (fun τ hτ hW => ⟨⟨_, (), rfl, (by unfold o_share; (all_goals try first | rw [if_pos c5] | rw [if_neg c5]); (all_goals try rfl)), yPt hPf hτ⟩, hS.F hτ⟩) hS.2.2 dX3_doneShare_40

set_option maxHeartbeats 4000000 in
set_option maxRecDepth 100000 in
theorem c_X3_meanAmount (l : Launch) (G : va_G) (k : Nat → ClassId) (a : Nat → Nat) (C : Nat → Nat → Int32) (n0 : Nat) (M : Nat → Nat → Int32) (n1 : Nat) (d : Nat) (th : Int32) (sz : Nat)  (hND : va_D (fun _ => True) (W3 k a C n0 M n1 d th)) (hn : n0 ≤ 8) : Met l yX3_meanAmount wsX3_meanAmount ({ frames := 0, cells := 0, slots := 0, locals := 0 }) (va_Pc [.ref (a 0)] (yBs G (yT k) (W3 k a C n0 M n1 d th) sz)) (va_Qd (fun (r : UInt64) (_ : Unit) => r = (o_mean C n0).2) (fun _ τ => va_P G vwCl (W3 k a C n0 M n1 d ((o_mean C n0).1)) τ.heap) (va_A (W3 k a C n0 M n1 d th) sz)) 0 0 (va_A (W3 k a C n0 M n1 d th) sz) := by
  refine Met.ofW (cc := cX3_meanAmount) (maxL := 4) (ret := (some .double)) (by decide) rfl ?_
  intro p e s m args below meth c_ s₁ B hml hv
  obtain ⟨rfl, hsz, hP, hK⟩ := hv
  have hx := B.exec
  have hb := B.bytes
  have hr := B.returns
  have hts := atoms_spec (ws := wsX3_meanAmount) B.pre
  have hown : s.vm.findClass RX3 = some m.cls := findClass_of_methodNamed B.named
  have hlocks := B.notSynchronized
  have hsz0 : (8 : Nat) < 2 ^ 31 := by decide
  have hsz1 : (80 : Nat) < 2 ^ 31 := by decide
  subst hsz
  have hD := hND.self (sz := s.heap.size)
  generalize hAe : va_A (W3 k a C n0 M n1 d th) s.heap.size = A at hD ⊢
  have hA : ∀ q : Nat, s.heap.size ≤ q → A q := fun q h => by rw [← hAe]; exact Or.inr h
  have hS : va_S A s.heap s.heap [] := va_S.rf
  have hinX3 : ∀ w ∈ u_ws RX3 TX3 19, w ∈ wsX3_meanAmount := by decide +kernel
  have fl61 := hts (.fieldLink RX3 61 "DunningDeskModel" "cases" "I") (by decide +kernel)
  have fl9 := hts (.fieldLink RX3 9 "DunningDeskModel" "amounts" "[I") (by decide +kernel)
  have fl57 := hts (.fieldLink RX3 57 "DunningDeskModel" "thrown" "I") (by decide +kernel)
  have hl := lv_entry [.ref (a 0)] (n := 4) (Nat.le_of_ble_eq_true rfl)
  rw [lg_entry_eq]
  generalize (lg_sl [.ref (a 0)] ++ List.replicate (4 - (lg_sl [.ref (a 0)]).length) Slot.unset).toArray = ls at hl ⊢
  have hl : lv_has ls 4 [(0, .ref (a 0))] := hl
  refine lv_iconst (v := 0) hx hb dX3_meanAmount_0 (by decide) ?_
  refine lv_istore_n (lv' := [(1, .int 0), (0, .ref (a 0))]) hx hb dX3_meanAmount_1 rfl hl (by decide) rfl (fun ls hl => ?_)
  refine lv_iconst (v := 0) hx hb dX3_meanAmount_2 (by decide) ?_
  refine lv_istore_n (lv' := [(2, .int 0), (1, .int 0), (0, .ref (a 0))]) hx hb dX3_meanAmount_3 rfl hl (by decide) rfl (fun ls hl => ?_)
  refine lv_iconst (v := 0) hx hb dX3_meanAmount_4 (by decide) ?_
  refine lv_istore_n (lv' := [(3, .int 0), (2, .int 0), (1, .int 0), (0, .ref (a 0))]) hx hb dX3_meanAmount_5 rfl hl (by decide) rfl (fun ls hl => ?_)
  have hl : lv_has ls 4 [(3, .int (nI 0)), (2, .int (nI 0)), (1, .int 0), (0, .ref (a 0))] := lv_sub hl [0, 1, 2, 3] rfl
  refine y_loop (σ := Nat × Int32 × Nat) (fun r xσ H locs ls => xσ.1 + r = n0 ∧ xσ.2.2 ≤ xσ.1 ∧ sm (C 0) n0 0 0 = sm (C 0) r xσ.1 xσ.2.1 ∧ cnt (fun z => decide (0 < C 0 z)) n0 0 0 = cnt (fun z => decide (0 < C 0 z)) r xσ.1 xσ.2.2 ∧ va_P G vwCl (W3 k a C n0 M n1 d th) H ∧ va_D A (W3 k a C n0 M n1 d th) ∧ va_S A s.heap H locs ∧ lv_has ls 4 [(3, .int (nI xσ.1)), (2, .int (nI xσ.2.2)), (1, .int xσ.2.1), (0, .ref (a 0))]) (fun r xσ H locs ls hI ih6 => ?_) n0 (0, 0, 0) _ _ _ ⟨(by dsimp only; omega), (Nat.le_refl 0), rfl, rfl, hP, hD, hS, hl⟩
  obtain ⟨i, o, u⟩ := xσ
  obtain ⟨hi, hu, hs, hv, hP, hD, hS, hl⟩ := hI
  dsimp only at hi hu hs hv hP hD hl
  refine lv_iload_n hx hb dX3_meanAmount_6 rfl (lv_at hl 0 rfl) ?_
  refine lv_aload_n hx hb dX3_meanAmount_7 rfl (lv_at hl 3 rfl) ?_
  refine va_get (D := G) (ci := 5) (v := .int (nI n0)) (C := RX3) (T := TX3) (N := 19) hx hb hts hinX3 hown hK hP 0 rfl rfl 5 (by decide) fl61 (fun _ h9 => h9) rfl dX3_meanAmount_8 ?_
  refine lv_icmp_ge (tgt := 46) hx hb dX3_meanAmount_11 (by decide) (fun c11 => ?_) (fun c11 => ?_)
  · replace c11 : n0 ≤ i := (nI_leI (a := n0) (b := i) (by omega) (by omega)).mp c11
    obtain rfl : r = 0 := by omega
    replace hs : sm (C 0) n0 0 0 = o := hs
    replace hv : cnt (fun z => decide (0 < C 0 z)) n0 0 0 = u := hv
    refine lv_aload_n hx hb dX3_meanAmount_46 rfl (lv_at hl 3 rfl) ?_
    refine lv_iload_n hx hb dX3_meanAmount_47 rfl (lv_at hl 1 rfl) ?_
    refine lv_if_ne (tgt := 55) hx hb dX3_meanAmount_48 (by decide) (fun c48 => ?_) (fun c48 => ?_)
    · replace c48 : ¬ u = 0 := fun h9 => c48 ((nI_eq (a := u) (b := 0) (by omega) (by omega)).mpr h9)
      refine lv_iconst (v := 0) hx hb dX3_meanAmount_55 (by decide) ?_
      refine va_put (D := G) (ci := 5) (v := .int 0) (ty := .int) (C := RX3) (T := TX3) (N := 19) hx hb hts hinX3 tyX3 tyX3_ok nmX3 hown hK hP hD hS 0 rfl rfl 18 (by decide) fl57 (fun _ h9 => h9) rfl (by decide +kernel) rfl rfl (Nat.le_of_ble_eq_true rfl) dX3_meanAmount_56 (fun H locs hP hD hS => ?_)
      have hP : va_P G vwCl (W3 k a C n0 M n1 d 0) H := hP
      have hD : va_D A (W3 k a C n0 M n1 d 0) := hD
      refine lv_aload_n hx hb dX3_meanAmount_59 rfl (lv_at hl 3 rfl) ?_
      refine va_get (D := G) (ci := 5) (v := .int 0) (C := RX3) (T := TX3) (N := 19) hx hb hts hinX3 hown hK hP 0 rfl rfl 18 (by decide) fl57 (fun _ h9 => h9) rfl dX3_meanAmount_60 ?_
      refine lv_if_le (tgt := 70) hx hb dX3_meanAmount_63 (by decide) (fun _ => ?_) (fun c9 => absurd c9 (by decide))
      refine lv_iload_n hx hb dX3_meanAmount_70 rfl (lv_at hl 2 rfl) ?_
      refine lv_i2d hx hb dX3_meanAmount_71 ?_
      refine lv_iload_n hx hb dX3_meanAmount_72 rfl (lv_at hl 1 rfl) ?_
      refine lv_i2d hx hb dX3_meanAmount_73 ?_
      refine lv_ddiv hx hb dX3_meanAmount_74 (y_ddiv (fun h9 => c48 ((nI_eq (a := u) (b := 0) (by omega) (by omega)).mp h9))) ?_
      have hPf : va_P G vwCl (W3 k a C n0 M n1 d ((o_mean C n0).1)) H := by unfold o_mean; rw [hv, hs]; first | (rw [if_pos c48]; exact hP) | (rw [if_neg c48]; exact hP)
      exact W.dret (v := (FP.ddiv (FP.i2d o) (FP.i2d (nI u)))) hx hb hr (fun τ hτ hW => ⟨⟨_, (), rfl, (by unfold o_mean; rw [hv, hs]; (all_goals try first | rw [if_pos c48] | rw [if_neg c48]); (all_goals try rfl)), yPt hPf hτ⟩, hS.F hτ⟩) hS.2.2 dX3_meanAmount_75
    · replace c48 : u = 0 := (nI_eq (a := u) (b := 0) (by omega) (by omega)).mp c48
      refine lv_iconst (v := 1) hx hb dX3_meanAmount_51 (by decide) ?_
      refine lv_goto (tgt := 56) hx hb dX3_meanAmount_52 (by decide) ?_
      refine va_put (D := G) (ci := 5) (v := .int 1) (ty := .int) (C := RX3) (T := TX3) (N := 19) hx hb hts hinX3 tyX3 tyX3_ok nmX3 hown hK hP hD hS 0 rfl rfl 18 (by decide) fl57 (fun _ h9 => h9) rfl (by decide +kernel) rfl rfl (Nat.le_of_ble_eq_true rfl) dX3_meanAmount_56 (fun H locs hP hD hS => ?_)
      have hP : va_P G vwCl (W3 k a C n0 M n1 d 1) H := hP
      have hD : va_D A (W3 k a C n0 M n1 d 1) := hD
      refine lv_aload_n hx hb dX3_meanAmount_59 rfl (lv_at hl 3 rfl) ?_
      refine va_get (D := G) (ci := 5) (v := .int 1) (C := RX3) (T := TX3) (N := 19) hx hb hts hinX3 hown hK hP 0 rfl rfl 18 (by decide) fl57 (fun _ h9 => h9) rfl dX3_meanAmount_60 ?_
      refine lv_if_le (tgt := 70) hx hb dX3_meanAmount_63 (by decide) (fun c9 => absurd c9 (by decide)) (fun _ => ?_)
      refine lv_dconst0 hx hb dX3_meanAmount_66 ?_
      refine lv_goto (tgt := 75) hx hb dX3_meanAmount_67 (by decide) ?_
      have hPf : va_P G vwCl (W3 k a C n0 M n1 d ((o_mean C n0).1)) H := by unfold o_mean; rw [hv, hs]; first | (rw [if_pos c48]; exact hP) | (rw [if_neg c48]; exact hP)
      exact W.dret (v := 0) hx hb hr (fun τ hτ hW => ⟨⟨_, (), rfl, (by unfold o_mean; rw [hv, hs]; (all_goals try first | rw [if_pos c48] | rw [if_neg c48]); (all_goals try rfl)), yPt hPf hτ⟩, hS.F hτ⟩) hS.2.2 dX3_meanAmount_75
  · replace c11 : ¬ n0 ≤ i := fun h9 => c11 ((nI_leI (a := n0) (b := i) (by omega) (by omega)).mpr h9)
    obtain ⟨r', rfl⟩ : ∃ r', r = r' + 1 := ⟨r - 1, by omega⟩
    refine lv_iload_n hx hb dX3_meanAmount_14 rfl (lv_at hl 2 rfl) ?_
    refine lv_aload_n hx hb dX3_meanAmount_15 rfl (lv_at hl 3 rfl) ?_
    refine va_get (D := G) (ci := 5) (v := .ref (a 1)) (C := RX3) (T := TX3) (N := 19) hx hb hts hinX3 hown hK hP 0 rfl rfl 0 (by decide) fl9 (fun _ h9 => h9) rfl dX3_meanAmount_16 ?_
    refine lv_iload_n hx hb dX3_meanAmount_19 rfl (lv_at hl 0 rfl) ?_
    refine y_iald hx hb hK hP 1 0 rfl rfl (j := i) (by omega) hsz0 dX3_meanAmount_20 ?_
    refine lv_iadd hx hb dX3_meanAmount_21 ?_
    refine lv_istore_n (lv' := [(1, .int (o + (C 0 i))), (3, .int (nI i)), (2, .int (nI u)), (0, .ref (a 0))]) hx hb dX3_meanAmount_22 rfl hl (by decide) rfl (fun ls hl => ?_)
    refine lv_iload_n hx hb dX3_meanAmount_23 rfl (lv_at hl 2 rfl) ?_
    refine lv_aload_n hx hb dX3_meanAmount_24 rfl (lv_at hl 3 rfl) ?_
    refine va_get (D := G) (ci := 5) (v := .ref (a 1)) (C := RX3) (T := TX3) (N := 19) hx hb hts hinX3 hown hK hP 0 rfl rfl 0 (by decide) fl9 (fun _ h9 => h9) rfl dX3_meanAmount_25 ?_
    refine lv_iload_n hx hb dX3_meanAmount_28 rfl (lv_at hl 1 rfl) ?_
    refine y_iald hx hb hK hP 1 0 rfl rfl (j := i) (by omega) hsz0 dX3_meanAmount_29 ?_
    refine lv_if_le (tgt := 37) hx hb dX3_meanAmount_30 (by decide) (fun c30 => ?_) (fun c30 => ?_)
    · skip
      refine lv_iconst (v := 0) hx hb dX3_meanAmount_37 (by decide) ?_
      refine lv_iadd hx hb dX3_meanAmount_38 ?_
      refine y_top (y_add0 _) ?_
      refine lv_istore_n (lv' := [(2, .int (nI u)), (1, .int (o + (C 0 i))), (3, .int (nI i)), (0, .ref (a 0))]) hx hb dX3_meanAmount_39 rfl hl (by decide) rfl (fun ls hl => ?_)
      refine lv_iinc (v := nI (i + 1)) (lv' := [(3, .int (nI (i + 1))), (2, .int (nI u)), (1, .int (o + (C 0 i))), (0, .ref (a 0))]) hx hb dX3_meanAmount_40 hl (k := 2) rfl (nI_1 i) (by decide) rfl (fun ls hl => ?_)
      refine lv_goto (tgt := 6) hx hb dX3_meanAmount_43 (by decide) ?_
      exact ih6 r' (i + 1, o + (C 0 i), u) _ _ _ (by omega) ⟨(by dsimp only; omega), (by dsimp only; omega), (by rw [hs]; rfl), (by rw [hv]; first | exact cnt_t (decide_eq_true (Int32.not_le.mp c30)) | exact cnt_f (decide_eq_false (Int32.not_lt.mpr c30))), hP, hD, hS, lv_sub hl [0, 1, 2, 3] rfl⟩
    · skip
      refine lv_iconst (v := 1) hx hb dX3_meanAmount_33 (by decide) ?_
      refine lv_goto (tgt := 38) hx hb dX3_meanAmount_34 (by decide) ?_
      refine lv_iadd hx hb dX3_meanAmount_38 ?_
      refine y_top (nI_1 u) ?_
      refine lv_istore_n (lv' := [(2, .int (nI (u + 1))), (1, .int (o + (C 0 i))), (3, .int (nI i)), (0, .ref (a 0))]) hx hb dX3_meanAmount_39 rfl hl (by decide) rfl (fun ls hl => ?_)
      refine lv_iinc (v := nI (i + 1)) (lv' := [(3, .int (nI (i + 1))), (2, .int (nI (u + 1))), (1, .int (o + (C 0 i))), (0, .ref (a 0))]) hx hb dX3_meanAmount_40 hl (k := 2) rfl (nI_1 i) (by decide) rfl (fun ls hl => ?_)
      refine lv_goto (tgt := 6) hx hb dX3_meanAmount_43 (by decide) ?_
      exact ih6 r' (i + 1, o + (C 0 i), u + 1) _ _ _ (by omega) ⟨(by dsimp only; omega), (by dsimp only; omega), (by rw [hs]; rfl), (by rw [hv]; first | exact cnt_t (decide_eq_true (Int32.not_le.mp c30)) | exact cnt_f (decide_eq_false (Int32.not_lt.mpr c30))), hP, hD, hS, lv_sub hl [0, 1, 2, 3] rfl⟩
