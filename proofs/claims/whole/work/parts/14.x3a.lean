set_option maxHeartbeats 4000000 in
set_option maxRecDepth 100000 in
theorem c_X3_in (l : Launch) (v lo hi : Int32)  : Met l yX3_in wsX3_in ({ frames := 0, cells := 0, slots := 0, locals := 0 }) (va_Pc [.int v, .int lo, .int hi] (fun _ => True)) (vp_Si (fun r => r = b2 (rg lo hi v))) 0 0 (fun _ => False) := by
  refine Met.ofW (cc := cX3_in) (maxL := 3) (ret := (some .boolean)) (by decide) rfl ?_
  intro p e s m args below meth c_ s₁ B hml hv
  obtain ⟨rfl, -⟩ := hv
  have hx := B.exec
  have hb := B.bytes
  have hr := B.returns
  have hts := atoms_spec (ws := wsX3_in) B.pre
  have hown : s.vm.findClass RX3 = some m.cls := findClass_of_methodNamed B.named
  have hlocks := B.notSynchronized
  have hsz0 : (8 : Nat) < 2 ^ 31 := by decide
  have hsz1 : (80 : Nat) < 2 ^ 31 := by decide
  have hl := lv_entry [.int v, .int lo, .int hi] (n := 3) (Nat.le_of_ble_eq_true rfl)
  rw [lg_entry_eq]
  generalize (lg_sl [.int v, .int lo, .int hi] ++ List.replicate (3 - (lg_sl [.int v, .int lo, .int hi]).length) Slot.unset).toArray = ls at hl ⊢
  have hl : lv_has ls 3 [(0, .int v), (1, .int lo), (2, .int hi)] := hl
  refine lv_iload_n hx hb dX3_in_0 rfl (lv_at hl 0 rfl) ?_
  refine lv_iload_n hx hb dX3_in_1 rfl (lv_at hl 1 rfl) ?_
  refine lv_icmp_lt (tgt := 14) hx hb dX3_in_2 (by decide) (fun c2 => ?_) (fun c2 => ?_)
  · skip
    refine lv_iconst (v := 0) hx hb dX3_in_14 (by decide) ?_
    exact W.zret (v := 0) hx hb hr (by decide) (fun τ hτ _ => ⟨_, rfl, (by first | exact (b2_f (fun h9 => absurd h9.1 (Int32.not_le.mpr (by assumption)))).symm | exact (b2_f (fun h9 => absurd h9.2 (Int32.not_le.mpr (by assumption)))).symm | exact (b2_t ⟨Int32.not_lt.mp (by assumption), Int32.not_lt.mp (by assumption)⟩).symm), hτ⟩) (fun _ h9 => nomatch h9) dX3_in_15
  · skip
    refine lv_iload_n hx hb dX3_in_5 rfl (lv_at hl 0 rfl) ?_
    refine lv_iload_n hx hb dX3_in_6 rfl (lv_at hl 2 rfl) ?_
    refine lv_icmp_gt (tgt := 14) hx hb dX3_in_7 (by decide) (fun c7 => ?_) (fun c7 => ?_)
    · skip
      refine lv_iconst (v := 0) hx hb dX3_in_14 (by decide) ?_
      exact W.zret (v := 0) hx hb hr (by decide) (fun τ hτ _ => ⟨_, rfl, (by first | exact (b2_f (fun h9 => absurd h9.1 (Int32.not_le.mpr (by assumption)))).symm | exact (b2_f (fun h9 => absurd h9.2 (Int32.not_le.mpr (by assumption)))).symm | exact (b2_t ⟨Int32.not_lt.mp (by assumption), Int32.not_lt.mp (by assumption)⟩).symm), hτ⟩) (fun _ h9 => nomatch h9) dX3_in_15
    · skip
      refine lv_iconst (v := 1) hx hb dX3_in_10 (by decide) ?_
      refine lv_goto (tgt := 15) hx hb dX3_in_11 (by decide) ?_
      exact W.zret (v := 1) hx hb hr (by decide) (fun τ hτ _ => ⟨_, rfl, (by first | exact (b2_f (fun h9 => absurd h9.1 (Int32.not_le.mpr (by assumption)))).symm | exact (b2_f (fun h9 => absurd h9.2 (Int32.not_le.mpr (by assumption)))).symm | exact (b2_t ⟨Int32.not_lt.mp (by assumption), Int32.not_lt.mp (by assumption)⟩).symm), hτ⟩) (fun _ h9 => nomatch h9) dX3_in_15

set_option maxHeartbeats 4000000 in
set_option maxRecDepth 100000 in
theorem c_X3_thrown (l : Launch) (G : va_G) (k : Nat → ClassId) (a : Nat → Nat) (C : Nat → Nat → Int32) (n0 : Nat) (M : Nat → Nat → Int32) (n1 : Nat) (d : Nat) (th : Int32)   : Met l yX3_thrown wsX3_thrown ({ frames := 0, cells := 0, slots := 0, locals := 0 }) (va_Pc [.ref (a 0)] (yB G (yT k) (W3 k a C n0 M n1 d th))) (vp_Si (fun r => r = th)) 0 0 (fun _ => False) := by
  refine Met.ofW (cc := cX3_thrown) (maxL := 1) (ret := (some .int)) (by decide) rfl ?_
  intro p e s m args below meth c_ s₁ B hml hv
  obtain ⟨rfl, hP, hK⟩ := hv
  have hx := B.exec
  have hb := B.bytes
  have hr := B.returns
  have hts := atoms_spec (ws := wsX3_thrown) B.pre
  have hown : s.vm.findClass RX3 = some m.cls := findClass_of_methodNamed B.named
  have hlocks := B.notSynchronized
  have hsz0 : (8 : Nat) < 2 ^ 31 := by decide
  have hsz1 : (80 : Nat) < 2 ^ 31 := by decide
  have hinX3 : ∀ w ∈ u_ws RX3 TX3 19, w ∈ wsX3_thrown := by decide +kernel
  have fl57 := hts (.fieldLink RX3 57 "DunningDeskModel" "thrown" "I") (by decide +kernel)
  have hl := lv_entry [.ref (a 0)] (n := 1) (Nat.le_of_ble_eq_true rfl)
  rw [lg_entry_eq]
  generalize (lg_sl [.ref (a 0)] ++ List.replicate (1 - (lg_sl [.ref (a 0)]).length) Slot.unset).toArray = ls at hl ⊢
  have hl : lv_has ls 1 [(0, .ref (a 0))] := hl
  refine lv_aload_n hx hb dX3_thrown_0 rfl (lv_at hl 0 rfl) ?_
  refine va_get (D := G) (ci := 5) (v := .int th) (C := RX3) (T := TX3) (N := 19) hx hb hts hinX3 hown hK hP 0 rfl rfl 18 (by decide) fl57 (fun _ h9 => h9) rfl dX3_thrown_1 ?_
  exact W.iret (v := th) hx hb hr (fun τ hτ _ => ⟨_, rfl, (by rfl), hτ⟩) (fun _ h9 => nomatch h9) dX3_thrown_4

set_option maxHeartbeats 4000000 in
set_option maxRecDepth 100000 in
theorem c_X3_raises (l : Launch) (G : va_G) (k : Nat → ClassId) (a : Nat → Nat) (C : Nat → Nat → Int32) (n0 : Nat) (M : Nat → Nat → Int32) (n1 : Nat) (d : Nat) (th : Int32) (sz : Nat) (u : Int32) (hND : va_D (fun _ => True) (W3 k a C n0 M n1 d th))  : Met l yX3_raises wsX3_raises ({ frames := 0, cells := 0, slots := 0, locals := 0 }) (va_Pc [.ref (a 0), .int u] (yBs G (yT k) (W3 k a C n0 M n1 d th) sz)) (va_Qi (fun (r : Int32) (_ : Unit) => r = 0) (fun _ τ => va_P G vwCl (W3 k a C n0 M n1 d u) τ.heap) (va_A (W3 k a C n0 M n1 d th) sz)) 0 0 (va_A (W3 k a C n0 M n1 d th) sz) := by
  refine Met.ofW (cc := cX3_raises) (maxL := 2) (ret := (some .int)) (by decide) rfl ?_
  intro p e s m args below meth c_ s₁ B hml hv
  obtain ⟨rfl, hsz, hP, hK⟩ := hv
  have hx := B.exec
  have hb := B.bytes
  have hr := B.returns
  have hts := atoms_spec (ws := wsX3_raises) B.pre
  have hown : s.vm.findClass RX3 = some m.cls := findClass_of_methodNamed B.named
  have hlocks := B.notSynchronized
  have hsz0 : (8 : Nat) < 2 ^ 31 := by decide
  have hsz1 : (80 : Nat) < 2 ^ 31 := by decide
  subst hsz
  have hD := hND.self (sz := s.heap.size)
  generalize hAe : va_A (W3 k a C n0 M n1 d th) s.heap.size = A at hD ⊢
  have hA : ∀ q : Nat, s.heap.size ≤ q → A q := fun q h => by rw [← hAe]; exact Or.inr h
  have hS : va_S A s.heap s.heap [] := va_S.rf
  have hinX3 : ∀ w ∈ u_ws RX3 TX3 19, w ∈ wsX3_raises := by decide +kernel
  have fl57 := hts (.fieldLink RX3 57 "DunningDeskModel" "thrown" "I") (by decide +kernel)
  have hl := lv_entry [.ref (a 0), .int u] (n := 2) (Nat.le_of_ble_eq_true rfl)
  rw [lg_entry_eq]
  generalize (lg_sl [.ref (a 0), .int u] ++ List.replicate (2 - (lg_sl [.ref (a 0), .int u]).length) Slot.unset).toArray = ls at hl ⊢
  have hl : lv_has ls 2 [(0, .ref (a 0)), (1, .int u)] := hl
  refine lv_aload_n hx hb dX3_raises_0 rfl (lv_at hl 0 rfl) ?_
  refine lv_iload_n hx hb dX3_raises_1 rfl (lv_at hl 1 rfl) ?_
  refine va_put (D := G) (ci := 5) (v := .int u) (ty := .int) (C := RX3) (T := TX3) (N := 19) hx hb hts hinX3 tyX3 tyX3_ok nmX3 hown hK hP hD hS 0 rfl rfl 18 (by decide) fl57 (fun _ h9 => h9) rfl (by decide +kernel) rfl rfl (Nat.le_of_ble_eq_true rfl) dX3_raises_2 (fun H locs hP hD hS => ?_)
  have hP : va_P G vwCl (W3 k a C n0 M n1 d u) H := hP
  have hD : va_D A (W3 k a C n0 M n1 d u) := hD
  refine lv_iconst (v := 0) hx hb dX3_raises_5 (by decide) ?_
  have hPf : va_P G vwCl (W3 k a C n0 M n1 d u) H := by exact hP
  exact W.iret (v := 0) hx hb hr (fun τ hτ hW => ⟨⟨_, (), rfl, (by rfl), yPt hPf hτ⟩, hS.F hτ⟩) hS.2.2 dX3_raises_6

set_option maxHeartbeats 4000000 in
set_option maxRecDepth 100000 in
theorem c_X3_noCase (l : Launch) (G : va_G) (k : Nat → ClassId) (a : Nat → Nat) (C : Nat → Nat → Int32) (n0 : Nat) (M : Nat → Nat → Int32) (n1 : Nat) (d : Nat) (th : Int32) (sz : Nat) (x : Int32) (hND : va_D (fun _ => True) (W3 k a C n0 M n1 d th)) (hn : n0 ≤ 8) : Met l yX3_noCase wsX3_noCase ({ frames := 1, cells := 0, slots := 0, locals := 22 }) (va_Pc [.ref (a 0), .int x] (yBs G (yT k) (W3 k a C n0 M n1 d th) sz)) (va_Qi (fun (r : Int32) (_ : Unit) => r = b2 (¬ inR x n0)) (fun _ τ => va_P G vwCl (W3 k a C n0 M n1 d (if inR x n0 then 0 else 1)) τ.heap) (va_A (W3 k a C n0 M n1 d th) sz)) 0 0 (va_A (W3 k a C n0 M n1 d th) sz) := by
  refine Met.ofW (cc := cX3_noCase) (maxL := 2) (ret := (some .boolean)) (by decide) rfl ?_
  intro p e s m args below meth c_ s₁ B hml hv
  obtain ⟨rfl, hsz, hP, hK⟩ := hv
  have hx := B.exec
  have hb := B.bytes
  have hr := B.returns
  have hts := atoms_spec (ws := wsX3_noCase) B.pre
  have hown : s.vm.findClass RX3 = some m.cls := findClass_of_methodNamed B.named
  have hlocks := B.notSynchronized
  have hsz0 : (8 : Nat) < 2 ^ 31 := by decide
  have hsz1 : (80 : Nat) < 2 ^ 31 := by decide
  subst hsz
  have hD := hND.self (sz := s.heap.size)
  generalize hAe : va_A (W3 k a C n0 M n1 d th) s.heap.size = A at hD ⊢
  have hA : ∀ q : Nat, s.heap.size ≤ q → A q := fun q h => by rw [← hAe]; exact Or.inr h
  have hS : va_S A s.heap s.heap [] := va_S.rf
  have hinX3 : ∀ w ∈ u_ws RX3 TX3 19, w ∈ wsX3_noCase := by decide +kernel
  have fl61 := hts (.fieldLink RX3 61 "DunningDeskModel" "cases" "I") (by decide +kernel)
  have fl57 := hts (.fieldLink RX3 57 "DunningDeskModel" "thrown" "I") (by decide +kernel)
  have hl := lv_entry [.ref (a 0), .int x] (n := 2) (Nat.le_of_ble_eq_true rfl)
  rw [lg_entry_eq]
  generalize (lg_sl [.ref (a 0), .int x] ++ List.replicate (2 - (lg_sl [.ref (a 0), .int x]).length) Slot.unset).toArray = ls at hl ⊢
  have hl : lv_has ls 2 [(0, .ref (a 0)), (1, .int x)] := hl
  refine lv_aload_n hx hb dX3_noCase_0 rfl (lv_at hl 0 rfl) ?_
  refine lv_iload_n hx hb dX3_noCase_1 rfl (lv_at hl 1 rfl) ?_
  refine lv_iconst (v := 0) hx hb dX3_noCase_2 (by decide) ?_
  refine lv_aload_n hx hb dX3_noCase_3 rfl (lv_at hl 0 rfl) ?_
  refine va_get (D := G) (ci := 5) (v := .int (nI n0)) (C := RX3) (T := TX3) (N := 19) hx hb hts hinX3 hown hK hP 0 rfl rfl 5 (by decide) fl61 (fun _ h9 => h9) rfl dX3_noCase_4 ?_
  refine lv_iconst (v := 1) hx hb dX3_noCase_7 (by decide) ?_
  refine lv_isub hx hb dX3_noCase_8 ?_
  refine y_roS (As := [.int x, .int 0, .int ((nI n0) - 1)]) (rest := [.ref (a 0)]) ⟨hx, hb, hml, hown, hts⟩ (c_X3_in l x 0 ((nI n0) - 1) ) (va_cwS 3 hts gX3_noCase_X3_in rfl rfl rfl (by decide +kernel) ⟨Nat.le_of_ble_eq_true rfl, Nat.le_of_ble_eq_true rfl⟩) rfl hl.1 rfl (Nat.le_of_ble_eq_true rfl) dX3_noCase_9 ⟨Nat.le_of_ble_eq_true rfl, Nat.le_of_ble_eq_true rfl⟩ (fun r hr9 => ?_)
  subst hr9
  refine lv_if_eq (tgt := 19) hx hb dX3_noCase_12 (by decide) (fun c12 => ?_) (fun c12 => ?_)
  · replace c12 : ¬ inR x n0 := fun h9 => b2_of0 c12 ((rg_in (by omega)).mpr h9)
    refine lv_iconst (v := 1) hx hb dX3_noCase_19 (by decide) ?_
    refine va_put (D := G) (ci := 5) (v := .int 1) (ty := .int) (C := RX3) (T := TX3) (N := 19) hx hb hts hinX3 tyX3 tyX3_ok nmX3 hown hK hP hD hS 0 rfl rfl 18 (by decide) fl57 (fun _ h9 => h9) rfl (by decide +kernel) rfl rfl (Nat.le_of_ble_eq_true rfl) dX3_noCase_20 (fun H locs hP hD hS => ?_)
    have hP : va_P G vwCl (W3 k a C n0 M n1 d 1) H := hP
    have hD : va_D A (W3 k a C n0 M n1 d 1) := hD
    refine lv_aload_n hx hb dX3_noCase_23 rfl (lv_at hl 0 rfl) ?_
    refine va_get (D := G) (ci := 5) (v := .int 1) (C := RX3) (T := TX3) (N := 19) hx hb hts hinX3 hown hK hP 0 rfl rfl 18 (by decide) fl57 (fun _ h9 => h9) rfl dX3_noCase_24 ?_
    refine lv_if_le (tgt := 34) hx hb dX3_noCase_27 (by decide) (fun c9 => absurd c9 (by decide)) (fun _ => ?_)
    refine lv_iconst (v := 1) hx hb dX3_noCase_30 (by decide) ?_
    refine lv_goto (tgt := 35) hx hb dX3_noCase_31 (by decide) ?_
    have hPf : va_P G vwCl (W3 k a C n0 M n1 d (if inR x n0 then 0 else 1)) H := by first | (rw [if_pos c12]; exact hP) | (rw [if_neg c12]; exact hP)
    exact W.zret (v := 1) hx hb hr (by decide) (fun τ hτ hW => ⟨⟨_, (), rfl, (by first | exact (b2_t c12).symm | exact (b2_f (fun h9 => h9 c12)).symm), yPt hPf hτ⟩, hS.F hτ⟩) hS.2.2 dX3_noCase_35
  · replace c12 : inR x n0 := (rg_in (by omega)).mp (b2_of1 c12)
    refine lv_iconst (v := 0) hx hb dX3_noCase_15 (by decide) ?_
    refine lv_goto (tgt := 20) hx hb dX3_noCase_16 (by decide) ?_
    refine va_put (D := G) (ci := 5) (v := .int 0) (ty := .int) (C := RX3) (T := TX3) (N := 19) hx hb hts hinX3 tyX3 tyX3_ok nmX3 hown hK hP hD hS 0 rfl rfl 18 (by decide) fl57 (fun _ h9 => h9) rfl (by decide +kernel) rfl rfl (Nat.le_of_ble_eq_true rfl) dX3_noCase_20 (fun H locs hP hD hS => ?_)
    have hP : va_P G vwCl (W3 k a C n0 M n1 d 0) H := hP
    have hD : va_D A (W3 k a C n0 M n1 d 0) := hD
    refine lv_aload_n hx hb dX3_noCase_23 rfl (lv_at hl 0 rfl) ?_
    refine va_get (D := G) (ci := 5) (v := .int 0) (C := RX3) (T := TX3) (N := 19) hx hb hts hinX3 hown hK hP 0 rfl rfl 18 (by decide) fl57 (fun _ h9 => h9) rfl dX3_noCase_24 ?_
    refine lv_if_le (tgt := 34) hx hb dX3_noCase_27 (by decide) (fun _ => ?_) (fun c9 => absurd c9 (by decide))
    refine lv_iconst (v := 0) hx hb dX3_noCase_34 (by decide) ?_
    have hPf : va_P G vwCl (W3 k a C n0 M n1 d (if inR x n0 then 0 else 1)) H := by first | (rw [if_pos c12]; exact hP) | (rw [if_neg c12]; exact hP)
    exact W.zret (v := 0) hx hb hr (by decide) (fun τ hτ hW => ⟨⟨_, (), rfl, (by first | exact (b2_t c12).symm | exact (b2_f (fun h9 => h9 c12)).symm), yPt hPf hτ⟩, hS.F hτ⟩) hS.2.2 dX3_noCase_35

set_option maxHeartbeats 4000000 in
set_option maxRecDepth 100000 in
theorem c_X3_noMessage (l : Launch) (G : va_G) (k : Nat → ClassId) (a : Nat → Nat) (C : Nat → Nat → Int32) (n0 : Nat) (M : Nat → Nat → Int32) (n1 : Nat) (d : Nat) (th : Int32) (sz : Nat) (x : Int32) (hND : va_D (fun _ => True) (W3 k a C n0 M n1 d th)) (hn1 : n1 ≤ 80) : Met l yX3_noMessage wsX3_noMessage ({ frames := 1, cells := 0, slots := 0, locals := 22 }) (va_Pc [.ref (a 0), .int x] (yBs G (yT k) (W3 k a C n0 M n1 d th) sz)) (va_Qi (fun (r : Int32) (_ : Unit) => r = b2 (¬ inR x n1)) (fun _ τ => va_P G vwCl (W3 k a C n0 M n1 d (if inR x n1 then 0 else 1)) τ.heap) (va_A (W3 k a C n0 M n1 d th) sz)) 0 0 (va_A (W3 k a C n0 M n1 d th) sz) := by
  refine Met.ofW (cc := cX3_noMessage) (maxL := 2) (ret := (some .boolean)) (by decide) rfl ?_
  intro p e s m args below meth c_ s₁ B hml hv
  obtain ⟨rfl, hsz, hP, hK⟩ := hv
  have hx := B.exec
  have hb := B.bytes
  have hr := B.returns
  have hts := atoms_spec (ws := wsX3_noMessage) B.pre
  have hown : s.vm.findClass RX3 = some m.cls := findClass_of_methodNamed B.named
  have hlocks := B.notSynchronized
  have hsz0 : (8 : Nat) < 2 ^ 31 := by decide
  have hsz1 : (80 : Nat) < 2 ^ 31 := by decide
  subst hsz
  have hD := hND.self (sz := s.heap.size)
  generalize hAe : va_A (W3 k a C n0 M n1 d th) s.heap.size = A at hD ⊢
  have hA : ∀ q : Nat, s.heap.size ≤ q → A q := fun q h => by rw [← hAe]; exact Or.inr h
  have hS : va_S A s.heap s.heap [] := va_S.rf
  have hinX3 : ∀ w ∈ u_ws RX3 TX3 19, w ∈ wsX3_noMessage := by decide +kernel
  have fl68 := hts (.fieldLink RX3 68 "DunningDeskModel" "messages" "I") (by decide +kernel)
  have fl57 := hts (.fieldLink RX3 57 "DunningDeskModel" "thrown" "I") (by decide +kernel)
  have hl := lv_entry [.ref (a 0), .int x] (n := 2) (Nat.le_of_ble_eq_true rfl)
  rw [lg_entry_eq]
  generalize (lg_sl [.ref (a 0), .int x] ++ List.replicate (2 - (lg_sl [.ref (a 0), .int x]).length) Slot.unset).toArray = ls at hl ⊢
  have hl : lv_has ls 2 [(0, .ref (a 0)), (1, .int x)] := hl
  refine lv_aload_n hx hb dX3_noMessage_0 rfl (lv_at hl 0 rfl) ?_
  refine lv_iload_n hx hb dX3_noMessage_1 rfl (lv_at hl 1 rfl) ?_
  refine lv_iconst (v := 0) hx hb dX3_noMessage_2 (by decide) ?_
  refine lv_aload_n hx hb dX3_noMessage_3 rfl (lv_at hl 0 rfl) ?_
  refine va_get (D := G) (ci := 5) (v := .int (nI n1)) (C := RX3) (T := TX3) (N := 19) hx hb hts hinX3 hown hK hP 0 rfl rfl 16 (by decide) fl68 (fun _ h9 => h9) rfl dX3_noMessage_4 ?_
  refine lv_iconst (v := 1) hx hb dX3_noMessage_7 (by decide) ?_
  refine lv_isub hx hb dX3_noMessage_8 ?_
  refine y_roS (As := [.int x, .int 0, .int ((nI n1) - 1)]) (rest := [.ref (a 0)]) ⟨hx, hb, hml, hown, hts⟩ (c_X3_in l x 0 ((nI n1) - 1) ) (va_cwS 3 hts gX3_noMessage_X3_in rfl rfl rfl (by decide +kernel) ⟨Nat.le_of_ble_eq_true rfl, Nat.le_of_ble_eq_true rfl⟩) rfl hl.1 rfl (Nat.le_of_ble_eq_true rfl) dX3_noMessage_9 ⟨Nat.le_of_ble_eq_true rfl, Nat.le_of_ble_eq_true rfl⟩ (fun r hr9 => ?_)
  subst hr9
  refine lv_if_eq (tgt := 19) hx hb dX3_noMessage_12 (by decide) (fun c12 => ?_) (fun c12 => ?_)
  · replace c12 : ¬ inR x n1 := fun h9 => b2_of0 c12 ((rg_in (by omega)).mpr h9)
    refine lv_iconst (v := 1) hx hb dX3_noMessage_19 (by decide) ?_
    refine va_put (D := G) (ci := 5) (v := .int 1) (ty := .int) (C := RX3) (T := TX3) (N := 19) hx hb hts hinX3 tyX3 tyX3_ok nmX3 hown hK hP hD hS 0 rfl rfl 18 (by decide) fl57 (fun _ h9 => h9) rfl (by decide +kernel) rfl rfl (Nat.le_of_ble_eq_true rfl) dX3_noMessage_20 (fun H locs hP hD hS => ?_)
    have hP : va_P G vwCl (W3 k a C n0 M n1 d 1) H := hP
    have hD : va_D A (W3 k a C n0 M n1 d 1) := hD
    refine lv_aload_n hx hb dX3_noMessage_23 rfl (lv_at hl 0 rfl) ?_
    refine va_get (D := G) (ci := 5) (v := .int 1) (C := RX3) (T := TX3) (N := 19) hx hb hts hinX3 hown hK hP 0 rfl rfl 18 (by decide) fl57 (fun _ h9 => h9) rfl dX3_noMessage_24 ?_
    refine lv_if_le (tgt := 34) hx hb dX3_noMessage_27 (by decide) (fun c9 => absurd c9 (by decide)) (fun _ => ?_)
    refine lv_iconst (v := 1) hx hb dX3_noMessage_30 (by decide) ?_
    refine lv_goto (tgt := 35) hx hb dX3_noMessage_31 (by decide) ?_
    have hPf : va_P G vwCl (W3 k a C n0 M n1 d (if inR x n1 then 0 else 1)) H := by first | (rw [if_pos c12]; exact hP) | (rw [if_neg c12]; exact hP)
    exact W.zret (v := 1) hx hb hr (by decide) (fun τ hτ hW => ⟨⟨_, (), rfl, (by first | exact (b2_t c12).symm | exact (b2_f (fun h9 => h9 c12)).symm), yPt hPf hτ⟩, hS.F hτ⟩) hS.2.2 dX3_noMessage_35
  · replace c12 : inR x n1 := (rg_in (by omega)).mp (b2_of1 c12)
    refine lv_iconst (v := 0) hx hb dX3_noMessage_15 (by decide) ?_
    refine lv_goto (tgt := 20) hx hb dX3_noMessage_16 (by decide) ?_
    refine va_put (D := G) (ci := 5) (v := .int 0) (ty := .int) (C := RX3) (T := TX3) (N := 19) hx hb hts hinX3 tyX3 tyX3_ok nmX3 hown hK hP hD hS 0 rfl rfl 18 (by decide) fl57 (fun _ h9 => h9) rfl (by decide +kernel) rfl rfl (Nat.le_of_ble_eq_true rfl) dX3_noMessage_20 (fun H locs hP hD hS => ?_)
    have hP : va_P G vwCl (W3 k a C n0 M n1 d 0) H := hP
    have hD : va_D A (W3 k a C n0 M n1 d 0) := hD
    refine lv_aload_n hx hb dX3_noMessage_23 rfl (lv_at hl 0 rfl) ?_
    refine va_get (D := G) (ci := 5) (v := .int 0) (C := RX3) (T := TX3) (N := 19) hx hb hts hinX3 hown hK hP 0 rfl rfl 18 (by decide) fl57 (fun _ h9 => h9) rfl dX3_noMessage_24 ?_
    refine lv_if_le (tgt := 34) hx hb dX3_noMessage_27 (by decide) (fun _ => ?_) (fun c9 => absurd c9 (by decide))
    refine lv_iconst (v := 0) hx hb dX3_noMessage_34 (by decide) ?_
    have hPf : va_P G vwCl (W3 k a C n0 M n1 d (if inR x n1 then 0 else 1)) H := by first | (rw [if_pos c12]; exact hP) | (rw [if_neg c12]; exact hP)
    exact W.zret (v := 0) hx hb hr (by decide) (fun τ hτ hW => ⟨⟨_, (), rfl, (by first | exact (b2_t c12).symm | exact (b2_f (fun h9 => h9 c12)).symm), yPt hPf hτ⟩, hS.F hτ⟩) hS.2.2 dX3_noMessage_35

set_option maxHeartbeats 4000000 in
set_option maxRecDepth 100000 in
theorem c_X3_open (l : Launch) (G : va_G) (k : Nat → ClassId) (a : Nat → Nat) (C : Nat → Nat → Int32) (n0 : Nat) (M : Nat → Nat → Int32) (n1 : Nat) (d : Nat) (th : Int32) (sz : Nat) (x due : Int32) (hND : va_D (fun _ => True) (W3 k a C n0 M n1 d th)) (hn : n0 ≤ 8) (hn1 : n1 ≤ 80) : Met l yX3_open wsX3_open ({ frames := 1, cells := 0, slots := 0, locals := 22 }) (va_Pc [.ref (a 0), .int x, .int due] (yBs G (yT k) (W3 k a C n0 M n1 d th) sz)) (va_Qi (fun (r : Int32) (_ : Unit) => r = (o_open x due C n0 M n1 d).2.1) (fun _ τ => va_P G vwCl (W3 k a ((o_open x due C n0 M n1 d).2.2.1) ((o_open x due C n0 M n1 d).2.2.2.2) ((o_open x due C n0 M n1 d).2.2.2.1) n1 d ((o_open x due C n0 M n1 d).1)) τ.heap) (va_A (W3 k a C n0 M n1 d th) sz)) 0 0 (va_A (W3 k a C n0 M n1 d th) sz) := by
  refine Met.ofW (cc := cX3_open) (maxL := 4) (ret := (some .int)) (by decide) rfl ?_
  intro p e s m args below meth c_ s₁ B hml hv
  obtain ⟨rfl, hsz, hP, hK⟩ := hv
  have hx := B.exec
  have hb := B.bytes
  have hr := B.returns
  have hts := atoms_spec (ws := wsX3_open) B.pre
  have hown : s.vm.findClass RX3 = some m.cls := findClass_of_methodNamed B.named
  have hlocks := B.notSynchronized
  have hsz0 : (8 : Nat) < 2 ^ 31 := by decide
  have hsz1 : (80 : Nat) < 2 ^ 31 := by decide
  subst hsz
  have hD := hND.self (sz := s.heap.size)
  generalize hAe : va_A (W3 k a C n0 M n1 d th) s.heap.size = A at hD ⊢
  have hA : ∀ q : Nat, s.heap.size ≤ q → A q := fun q h => by rw [← hAe]; exact Or.inr h
  have hS : va_S A s.heap s.heap [] := va_S.rf
  have hinX3 : ∀ w ∈ u_ws RX3 TX3 19, w ∈ wsX3_open := by decide +kernel
  have fl61 := hts (.fieldLink RX3 61 "DunningDeskModel" "cases" "I") (by decide +kernel)
  have fl57 := hts (.fieldLink RX3 57 "DunningDeskModel" "thrown" "I") (by decide +kernel)
  have fl9 := hts (.fieldLink RX3 9 "DunningDeskModel" "amounts" "[I") (by decide +kernel)
  have fl13 := hts (.fieldLink RX3 13 "DunningDeskModel" "dues" "[I") (by decide +kernel)
  have fl68 := hts (.fieldLink RX3 68 "DunningDeskModel" "messages" "I") (by decide +kernel)
  have fl48 := hts (.fieldLink RX3 48 "DunningDeskModel" "states" "[C") (by decide +kernel)
  have fl36 := hts (.fieldLink RX3 36 "DunningDeskModel" "caseOf" "[I") (by decide +kernel)
  have fl42 := hts (.fieldLink RX3 42 "DunningDeskModel" "readyOn" "[I") (by decide +kernel)
  have fl71 := hts (.fieldLink RX3 71 "DunningDeskModel" "day" "I") (by decide +kernel)
  have hl := lv_entry [.ref (a 0), .int x, .int due] (n := 4) (Nat.le_of_ble_eq_true rfl)
  rw [lg_entry_eq]
  generalize (lg_sl [.ref (a 0), .int x, .int due] ++ List.replicate (4 - (lg_sl [.ref (a 0), .int x, .int due]).length) Slot.unset).toArray = ls at hl ⊢
  have hl : lv_has ls 4 [(0, .ref (a 0)), (1, .int x), (2, .int due)] := hl
  refine lv_aload_n hx hb dX3_open_0 rfl (lv_at hl 0 rfl) ?_
  refine lv_iload_n hx hb dX3_open_1 rfl (lv_at hl 1 rfl) ?_
  refine lv_iconst (v := 1) hx hb dX3_open_2 (by decide) ?_
  refine lv_sipush (v := 9999) hx hb dX3_open_3 (by decide) ?_
  refine y_roS (As := [.int x, .int 1, .int 9999]) (rest := [.ref (a 0)]) ⟨hx, hb, hml, hown, hts⟩ (c_X3_in l x 1 9999 ) (va_cwS 3 hts gX3_open_X3_in rfl rfl rfl (by decide +kernel) ⟨Nat.le_of_ble_eq_true rfl, Nat.le_of_ble_eq_true rfl⟩) rfl hl.1 rfl (Nat.le_of_ble_eq_true rfl) dX3_open_6 ⟨Nat.le_of_ble_eq_true rfl, Nat.le_of_ble_eq_true rfl⟩ (fun r hr9 => ?_)
  subst hr9
  refine lv_if_eq (tgt := 23) hx hb dX3_open_9 (by decide) (fun c9 => ?_) (fun c9 => ?_)
  · replace c9 : ¬ (rg 1 9999 x) := b2_of0 c9
    refine lv_iconst (v := 1) hx hb dX3_open_23 (by decide) ?_
    refine lv_goto (tgt := 41) hx hb dX3_open_24 (by decide) ?_
    refine va_put (D := G) (ci := 5) (v := .int 1) (ty := .int) (C := RX3) (T := TX3) (N := 19) hx hb hts hinX3 tyX3 tyX3_ok nmX3 hown hK hP hD hS 0 rfl rfl 18 (by decide) fl57 (fun _ h9 => h9) rfl (by decide +kernel) rfl rfl (Nat.le_of_ble_eq_true rfl) dX3_open_41 (fun H locs hP hD hS => ?_)
    have hP : va_P G vwCl (W3 k a C n0 M n1 d 1) H := hP
    have hD : va_D A (W3 k a C n0 M n1 d 1) := hD
    refine lv_aload_n hx hb dX3_open_44 rfl (lv_at hl 0 rfl) ?_
    refine va_get (D := G) (ci := 5) (v := .int 1) (C := RX3) (T := TX3) (N := 19) hx hb hts hinX3 hown hK hP 0 rfl rfl 18 (by decide) fl57 (fun _ h9 => h9) rfl dX3_open_45 ?_
    refine lv_if_le (tgt := 53) hx hb dX3_open_48 (by decide) (fun c9 => absurd c9 (by decide)) (fun _ => ?_)
    refine lv_iconst (v := 0) hx hb dX3_open_51 (by decide) ?_
    have hPf : va_P G vwCl (W3 k a ((o_open x due C n0 M n1 d).2.2.1) ((o_open x due C n0 M n1 d).2.2.2.2) ((o_open x due C n0 M n1 d).2.2.2.1) n1 d ((o_open x due C n0 M n1 d).1)) H := by unfold o_open; (all_goals try first | rw [if_pos c9] | rw [if_neg c9]); (all_goals try rw [hv]); exact hP
    exact W.iret (v := 0) hx hb hr (fun τ hτ hW => ⟨⟨_, (), rfl, (by unfold o_open; (all_goals try first | rw [if_pos c9] | rw [if_neg c9]); (all_goals try rfl)), yPt hPf hτ⟩, hS.F hτ⟩) hS.2.2 dX3_open_52
  · replace c9 : rg 1 9999 x := b2_of1 c9
    refine lv_iload_n hx hb dX3_open_12 rfl (lv_at hl 2 rfl) ?_
    refine lv_iconst (v := 0) hx hb dX3_open_13 (by decide) ?_
    refine lv_sipush (v := 999) hx hb dX3_open_14 (by decide) ?_
    refine y_roS (As := [.int due, .int 0, .int 999]) (rest := [.ref (a 0)]) ⟨hx, hb, hml, hown, hts⟩ (c_X3_in l due 0 999 ) (va_cwS 3 hts gX3_open_X3_in rfl rfl rfl (by decide +kernel) ⟨Nat.le_of_ble_eq_true rfl, Nat.le_of_ble_eq_true rfl⟩) rfl hl.1 rfl (Nat.le_of_ble_eq_true rfl) dX3_open_17 ⟨Nat.le_of_ble_eq_true rfl, Nat.le_of_ble_eq_true rfl⟩ (fun r hr9 => ?_)
    subst hr9
    refine lv_if_ne (tgt := 27) hx hb dX3_open_20 (by decide) (fun c20 => ?_) (fun c20 => ?_)
    · replace c20 : rg 0 999 due := b2_of1 c20
      refine lv_aload_n hx hb dX3_open_27 rfl (lv_at hl 0 rfl) ?_
      refine va_get (D := G) (ci := 5) (v := .int (nI n0)) (C := RX3) (T := TX3) (N := 19) hx hb hts hinX3 hown hK hP 0 rfl rfl 5 (by decide) fl61 (fun _ h9 => h9) rfl dX3_open_28 ?_
      refine lv_bipush (v := 8) hx hb dX3_open_31 (by decide) ?_
      refine lv_icmp_ne (tgt := 40) hx hb dX3_open_33 (by decide) (fun c33 => ?_) (fun c33 => ?_)
      · replace c33 : ¬ n0 = 8 := fun h9 => c33 ((nI_eq (a := n0) (b := 8) (by omega) (by omega)).mpr h9)
        refine lv_iconst (v := 0) hx hb dX3_open_40 (by decide) ?_
        refine va_put (D := G) (ci := 5) (v := .int 0) (ty := .int) (C := RX3) (T := TX3) (N := 19) hx hb hts hinX3 tyX3 tyX3_ok nmX3 hown hK hP hD hS 0 rfl rfl 18 (by decide) fl57 (fun _ h9 => h9) rfl (by decide +kernel) rfl rfl (Nat.le_of_ble_eq_true rfl) dX3_open_41 (fun H locs hP hD hS => ?_)
        have hP : va_P G vwCl (W3 k a C n0 M n1 d 0) H := hP
        have hD : va_D A (W3 k a C n0 M n1 d 0) := hD
        refine lv_aload_n hx hb dX3_open_44 rfl (lv_at hl 0 rfl) ?_
        refine va_get (D := G) (ci := 5) (v := .int 0) (C := RX3) (T := TX3) (N := 19) hx hb hts hinX3 hown hK hP 0 rfl rfl 18 (by decide) fl57 (fun _ h9 => h9) rfl dX3_open_45 ?_
        refine lv_if_le (tgt := 53) hx hb dX3_open_48 (by decide) (fun _ => ?_) (fun c9 => absurd c9 (by decide))
        refine lv_aload_n hx hb dX3_open_53 rfl (lv_at hl 0 rfl) ?_
        refine va_get (D := G) (ci := 5) (v := .ref (a 1)) (C := RX3) (T := TX3) (N := 19) hx hb hts hinX3 hown hK hP 0 rfl rfl 0 (by decide) fl9 (fun _ h9 => h9) rfl dX3_open_54 ?_
        refine lv_aload_n hx hb dX3_open_57 rfl (lv_at hl 0 rfl) ?_
        refine va_get (D := G) (ci := 5) (v := .int (nI n0)) (C := RX3) (T := TX3) (N := 19) hx hb hts hinX3 hown hK hP 0 rfl rfl 5 (by decide) fl61 (fun _ h9 => h9) rfl dX3_open_58 ?_
        refine lv_iload_n hx hb dX3_open_61 rfl (lv_at hl 1 rfl) ?_
        refine y_iast (ws' := W3 k a (w2 C 0 n0 x) n0 M n1 d 0) (j := n0) (x := x) hx hb hK hP hD hS 1 0 rfl rfl (by omega) hsz0 rfl dX3_open_62 (fun H locs hP hD hS => ?_)
        refine lv_aload_n hx hb dX3_open_63 rfl (lv_at hl 0 rfl) ?_
        refine va_get (D := G) (ci := 5) (v := .ref (a 2)) (C := RX3) (T := TX3) (N := 19) hx hb hts hinX3 hown hK hP 0 rfl rfl 1 (by decide) fl13 (fun _ h9 => h9) rfl dX3_open_64 ?_
        refine lv_aload_n hx hb dX3_open_67 rfl (lv_at hl 0 rfl) ?_
        refine va_get (D := G) (ci := 5) (v := .int (nI n0)) (C := RX3) (T := TX3) (N := 19) hx hb hts hinX3 hown hK hP 0 rfl rfl 5 (by decide) fl61 (fun _ h9 => h9) rfl dX3_open_68 ?_
        refine lv_iload_n hx hb dX3_open_71 rfl (lv_at hl 2 rfl) ?_
        refine y_iast (ws' := W3 k a (w2 (w2 C 0 n0 x) 1 n0 due) n0 M n1 d 0) (j := n0) (x := due) hx hb hK hP hD hS 2 0 rfl rfl (by omega) hsz0 rfl dX3_open_72 (fun H locs hP hD hS => ?_)
        refine lv_iconst (v := 0) hx hb dX3_open_73 (by decide) ?_
        refine lv_istore_n (lv' := [(3, .int 0), (0, .ref (a 0)), (1, .int x), (2, .int due)]) hx hb dX3_open_74 rfl hl (by decide) rfl (fun ls hl => ?_)
        have hl : lv_has ls 4 [(3, .int (nI 0)), (0, .ref (a 0)), (1, .int x), (2, .int due)] := lv_sub hl [0, 1, 2, 3] rfl
        refine y_loop (σ := Nat × (Nat → Nat → Int32)) (fun r xσ H locs ls => xσ.1 + r = n1 ∧ rel (nI n0) (nI d) n1 0 M = rel (nI n0) (nI d) r xσ.1 xσ.2 ∧ va_P G vwCl (W3 k a (w2 (w2 C 0 n0 x) 1 n0 due) n0 xσ.2 n1 d 0) H ∧ va_D A (W3 k a (w2 (w2 C 0 n0 x) 1 n0 due) n0 xσ.2 n1 d 0) ∧ va_S A s.heap H locs ∧ lv_has ls 4 [(3, .int (nI xσ.1)), (0, .ref (a 0)), (1, .int x), (2, .int due)]) (fun r xσ H locs ls hI ih75 => ?_) n1 (0, M) _ _ _ ⟨(by omega), rfl, hP, hD, hS, hl⟩
        obtain ⟨i, N⟩ := xσ
        obtain ⟨hi, hv, hP, hD, hS, hl⟩ := hI
        dsimp only at hi hv hP hD hl
        refine lv_iload_n hx hb dX3_open_75 rfl (lv_at hl 0 rfl) ?_
        refine lv_aload_n hx hb dX3_open_76 rfl (lv_at hl 1 rfl) ?_
        refine va_get (D := G) (ci := 5) (v := .int (nI n1)) (C := RX3) (T := TX3) (N := 19) hx hb hts hinX3 hown hK hP 0 rfl rfl 16 (by decide) fl68 (fun _ h9 => h9) rfl dX3_open_77 ?_
        refine lv_icmp_ge (tgt := 140) hx hb dX3_open_80 (by decide) (fun c80 => ?_) (fun c80 => ?_)
        · replace c80 : n1 ≤ i := (nI_leI (a := n1) (b := i) (by omega) (by omega)).mp c80
          obtain rfl : r = 0 := by omega
          replace hv : rel (nI n0) (nI d) n1 0 M = N := hv
          refine lv_aload_n hx hb dX3_open_140 rfl (lv_at hl 1 rfl) ?_
          refine lv_dup hx hb dX3_open_141 rfl ?_
          refine va_get (D := G) (ci := 5) (v := .int (nI n0)) (C := RX3) (T := TX3) (N := 19) hx hb hts hinX3 hown hK hP 0 rfl rfl 5 (by decide) fl61 (fun _ h9 => h9) rfl dX3_open_142 ?_
          refine lv_iconst (v := 1) hx hb dX3_open_145 (by decide) ?_
          refine lv_iadd hx hb dX3_open_146 ?_
          refine y_top (nI_1 n0) ?_
          refine va_put (D := G) (ci := 5) (v := .int (nI (n0 + 1))) (ty := .int) (C := RX3) (T := TX3) (N := 19) hx hb hts hinX3 tyX3 tyX3_ok nmX3 hown hK hP hD hS 0 rfl rfl 5 (by decide) fl61 (fun _ h9 => h9) rfl (by decide +kernel) rfl rfl (Nat.le_of_ble_eq_true rfl) dX3_open_147 (fun H locs hP hD hS => ?_)
          have hP : va_P G vwCl (W3 k a (w2 (w2 C 0 n0 x) 1 n0 due) (n0 + 1) N n1 d 0) H := hP
          have hD : va_D A (W3 k a (w2 (w2 C 0 n0 x) 1 n0 due) (n0 + 1) N n1 d 0) := hD
          refine lv_aload_n hx hb dX3_open_150 rfl (lv_at hl 1 rfl) ?_
          refine va_get (D := G) (ci := 5) (v := .int (nI (n0 + 1))) (C := RX3) (T := TX3) (N := 19) hx hb hts hinX3 hown hK hP 0 rfl rfl 5 (by decide) fl61 (fun _ h9 => h9) rfl dX3_open_151 ?_
          refine lv_iconst (v := 1) hx hb dX3_open_154 (by decide) ?_
          refine lv_isub hx hb dX3_open_155 ?_
          refine y_top ((nI_pred n0)) ?_
          have hPf : va_P G vwCl (W3 k a ((o_open x due C n0 M n1 d).2.2.1) ((o_open x due C n0 M n1 d).2.2.2.2) ((o_open x due C n0 M n1 d).2.2.2.1) n1 d ((o_open x due C n0 M n1 d).1)) H := by unfold o_open; (all_goals try first | rw [if_pos c9] | rw [if_neg c9]); (all_goals try first | rw [if_pos c20] | rw [if_neg c20]); (all_goals try first | rw [if_pos c33] | rw [if_neg c33]); (all_goals try first | rw [if_pos c80] | rw [if_neg c80]); (all_goals try rw [hv]); exact hP
          exact W.iret (v := (nI n0)) hx hb hr (fun τ hτ hW => ⟨⟨_, (), rfl, (by unfold o_open; (all_goals try first | rw [if_pos c9] | rw [if_neg c9]); (all_goals try first | rw [if_pos c20] | rw [if_neg c20]); (all_goals try first | rw [if_pos c33] | rw [if_neg c33]); (all_goals try first | rw [if_pos c80] | rw [if_neg c80]); (all_goals try rfl)), yPt hPf hτ⟩, hS.F hτ⟩) hS.2.2 dX3_open_156
        · replace c80 : ¬ n1 ≤ i := fun h9 => c80 ((nI_leI (a := n1) (b := i) (by omega) (by omega)).mpr h9)
          obtain ⟨r', rfl⟩ : ∃ r', r = r' + 1 := ⟨r - 1, by omega⟩
          refine lv_aload_n hx hb dX3_open_83 rfl (lv_at hl 1 rfl) ?_
          refine va_get (D := G) (ci := 5) (v := .ref (a 13)) (C := RX3) (T := TX3) (N := 19) hx hb hts hinX3 hown hK hP 0 rfl rfl 13 (by decide) fl48 (fun _ h9 => h9) rfl dX3_open_84 ?_
          refine lv_iload_n hx hb dX3_open_87 rfl (lv_at hl 0 rfl) ?_
          refine y_cald hx hb hK hP 13 2 rfl rfl (j := i) (by omega) hsz1 dX3_open_88 ?_
          refine lv_bipush (v := 104) hx hb dX3_open_89 (by decide) ?_
          refine lv_icmp_ne (tgt := 134) hx hb dX3_open_91 (by decide) (fun c91 => ?_) (fun c91 => ?_)
          · skip
            refine lv_iinc (v := nI (i + 1)) (lv' := [(3, .int (nI (i + 1))), (0, .ref (a 0)), (1, .int x), (2, .int due)]) hx hb dX3_open_134 hl (k := 0) rfl (nI_1 i) (by decide) rfl (fun ls hl => ?_)
            refine lv_goto (tgt := 75) hx hb dX3_open_137 (by decide) ?_
            exact ih75 r' (i + 1, N) _ _ _ (by omega) ⟨(by omega), (by rw [hv]; apply rel_1; first | exact if_pos ⟨c91, c104⟩ | exact if_neg (fun h9 => c91 h9.1) | exact if_neg (fun h9 => c104 h9.2)), hP, hD, hS, lv_sub hl [0, 1, 2, 3] rfl⟩
          · skip
            refine lv_aload_n hx hb dX3_open_94 rfl (lv_at hl 1 rfl) ?_
            refine va_get (D := G) (ci := 5) (v := .ref (a 9)) (C := RX3) (T := TX3) (N := 19) hx hb hts hinX3 hown hK hP 0 rfl rfl 9 (by decide) fl36 (fun _ h9 => h9) rfl dX3_open_95 ?_
            refine lv_iload_n hx hb dX3_open_98 rfl (lv_at hl 0 rfl) ?_
            refine y_iald hx hb hK hP 9 0 rfl rfl (j := i) (by omega) hsz1 dX3_open_99 ?_
            refine lv_aload_n hx hb dX3_open_100 rfl (lv_at hl 1 rfl) ?_
            refine va_get (D := G) (ci := 5) (v := .int (nI n0)) (C := RX3) (T := TX3) (N := 19) hx hb hts hinX3 hown hK hP 0 rfl rfl 5 (by decide) fl61 (fun _ h9 => h9) rfl dX3_open_101 ?_
            refine lv_icmp_ne (tgt := 134) hx hb dX3_open_104 (by decide) (fun c104 => ?_) (fun c104 => ?_)
            · skip
              refine lv_iinc (v := nI (i + 1)) (lv' := [(3, .int (nI (i + 1))), (0, .ref (a 0)), (1, .int x), (2, .int due)]) hx hb dX3_open_134 hl (k := 0) rfl (nI_1 i) (by decide) rfl (fun ls hl => ?_)
              refine lv_goto (tgt := 75) hx hb dX3_open_137 (by decide) ?_
              exact ih75 r' (i + 1, N) _ _ _ (by omega) ⟨(by omega), (by rw [hv]; apply rel_1; first | exact if_pos ⟨c91, c104⟩ | exact if_neg (fun h9 => c91 h9.1) | exact if_neg (fun h9 => c104 h9.2)), hP, hD, hS, lv_sub hl [0, 1, 2, 3] rfl⟩
            · skip
              refine lv_aload_n hx hb dX3_open_107 rfl (lv_at hl 1 rfl) ?_
              refine va_get (D := G) (ci := 5) (v := .ref (a 13)) (C := RX3) (T := TX3) (N := 19) hx hb hts hinX3 hown hK hP 0 rfl rfl 13 (by decide) fl48 (fun _ h9 => h9) rfl dX3_open_108 ?_
              refine lv_iload_n hx hb dX3_open_111 rfl (lv_at hl 0 rfl) ?_
              refine lv_bipush (v := 119) hx hb dX3_open_112 (by decide) ?_
              refine y_cast (ws' := W3 k a (w2 (w2 C 0 n0 x) 1 n0 due) n0 (w2 N 5 i 119) n1 d 0) (j := i) (x := 119) hx hb hK hP hD hS 13 2 rfl rfl (by omega) hsz1 (by decide) rfl dX3_open_114 (fun H locs hP hD hS => ?_)
              refine lv_aload_n hx hb dX3_open_115 rfl (lv_at hl 1 rfl) ?_
              refine va_get (D := G) (ci := 5) (v := .ref (a 11)) (C := RX3) (T := TX3) (N := 19) hx hb hts hinX3 hown hK hP 0 rfl rfl 11 (by decide) fl42 (fun _ h9 => h9) rfl dX3_open_116 ?_
              refine lv_iload_n hx hb dX3_open_119 rfl (lv_at hl 0 rfl) ?_
              refine lv_aload_n hx hb dX3_open_120 rfl (lv_at hl 1 rfl) ?_
              refine va_get (D := G) (ci := 5) (v := .ref (a 11)) (C := RX3) (T := TX3) (N := 19) hx hb hts hinX3 hown hK hP 0 rfl rfl 11 (by decide) fl42 (fun _ h9 => h9) rfl dX3_open_121 ?_
              refine lv_iload_n hx hb dX3_open_124 rfl (lv_at hl 0 rfl) ?_
              refine y_iald hx hb hK hP 11 0 rfl rfl (j := i) (by omega) hsz1 dX3_open_125 ?_
              refine y_top ((by rw [w2_n (by decide)])) ?_
              refine lv_aload_n hx hb dX3_open_126 rfl (lv_at hl 1 rfl) ?_
              refine va_get (D := G) (ci := 5) (v := .int (nI d)) (C := RX3) (T := TX3) (N := 19) hx hb hts hinX3 hown hK hP 0 rfl rfl 17 (by decide) fl71 (fun _ h9 => h9) rfl dX3_open_127 ?_
              refine va_mmax hx hb (hml.trans hl.1.symm) hown (hts (.methodLink RX3 74 Lib.Math.max.name) (by decide +kernel)) (hts (.static Lib.Math.max.name) (by decide +kernel)) (hts (.initialized "java/lang/Math") (by decide +kernel)) (hts (.code Lib.Math.max.name Lib.Math.max.code 2 (some .int)) (by decide +kernel)) (Nat.le_of_ble_eq_true rfl) (Nat.le_of_ble_eq_true rfl) (Nat.le_of_ble_eq_true rfl) (Nat.le_of_ble_eq_true rfl) dX3_open_130 ?_
              refine y_top (y := mx (N 6 i) (nI d)) rfl ?_
              refine y_iast (ws' := W3 k a (w2 (w2 C 0 n0 x) 1 n0 due) n0 (w2 (w2 N 5 i 119) 6 i (mx (N 6 i) (nI d))) n1 d 0) (j := i) (x := (mx (N 6 i) (nI d))) hx hb hK hP hD hS 11 0 rfl rfl (by omega) hsz1 rfl dX3_open_133 (fun H locs hP hD hS => ?_)
              refine lv_iinc (v := nI (i + 1)) (lv' := [(3, .int (nI (i + 1))), (0, .ref (a 0)), (1, .int x), (2, .int due)]) hx hb dX3_open_134 hl (k := 0) rfl (nI_1 i) (by decide) rfl (fun ls hl => ?_)
              refine lv_goto (tgt := 75) hx hb dX3_open_137 (by decide) ?_
              exact ih75 r' (i + 1, w2 (w2 N 5 i 119) 6 i (mx (N 6 i) (nI d))) _ _ _ (by omega) ⟨(by omega), (by rw [hv]; apply rel_1; first | exact if_pos ⟨c91, c104⟩ | exact if_neg (fun h9 => c91 h9.1) | exact if_neg (fun h9 => c104 h9.2)), hP, hD, hS, lv_sub hl [0, 1, 2, 3] rfl⟩
      · replace c33 : n0 = 8 := (nI_eq (a := n0) (b := 8) (by omega) (by omega)).mp c33
        refine lv_iconst (v := 2) hx hb dX3_open_36 (by decide) ?_
        refine lv_goto (tgt := 41) hx hb dX3_open_37 (by decide) ?_
        refine va_put (D := G) (ci := 5) (v := .int 2) (ty := .int) (C := RX3) (T := TX3) (N := 19) hx hb hts hinX3 tyX3 tyX3_ok nmX3 hown hK hP hD hS 0 rfl rfl 18 (by decide) fl57 (fun _ h9 => h9) rfl (by decide +kernel) rfl rfl (Nat.le_of_ble_eq_true rfl) dX3_open_41 (fun H locs hP hD hS => ?_)
        have hP : va_P G vwCl (W3 k a C n0 M n1 d 2) H := hP
        have hD : va_D A (W3 k a C n0 M n1 d 2) := hD
        refine lv_aload_n hx hb dX3_open_44 rfl (lv_at hl 0 rfl) ?_
        refine va_get (D := G) (ci := 5) (v := .int 2) (C := RX3) (T := TX3) (N := 19) hx hb hts hinX3 hown hK hP 0 rfl rfl 18 (by decide) fl57 (fun _ h9 => h9) rfl dX3_open_45 ?_
        refine lv_if_le (tgt := 53) hx hb dX3_open_48 (by decide) (fun c9 => absurd c9 (by decide)) (fun _ => ?_)
        refine lv_iconst (v := 0) hx hb dX3_open_51 (by decide) ?_
        have hPf : va_P G vwCl (W3 k a ((o_open x due C n0 M n1 d).2.2.1) ((o_open x due C n0 M n1 d).2.2.2.2) ((o_open x due C n0 M n1 d).2.2.2.1) n1 d ((o_open x due C n0 M n1 d).1)) H := by unfold o_open; (all_goals try first | rw [if_pos c9] | rw [if_neg c9]); (all_goals try first | rw [if_pos c20] | rw [if_neg c20]); (all_goals try first | rw [if_pos c33] | rw [if_neg c33]); (all_goals try rw [hv]); exact hP
        exact W.iret (v := 0) hx hb hr (fun τ hτ hW => ⟨⟨_, (), rfl, (by unfold o_open; (all_goals try first | rw [if_pos c9] | rw [if_neg c9]); (all_goals try first | rw [if_pos c20] | rw [if_neg c20]); (all_goals try first | rw [if_pos c33] | rw [if_neg c33]); (all_goals try rfl)), yPt hPf hτ⟩, hS.F hτ⟩) hS.2.2 dX3_open_52
    · replace c20 : ¬ (rg 0 999 due) := b2_of0 c20
      refine lv_iconst (v := 1) hx hb dX3_open_23 (by decide) ?_
      refine lv_goto (tgt := 41) hx hb dX3_open_24 (by decide) ?_
      refine va_put (D := G) (ci := 5) (v := .int 1) (ty := .int) (C := RX3) (T := TX3) (N := 19) hx hb hts hinX3 tyX3 tyX3_ok nmX3 hown hK hP hD hS 0 rfl rfl 18 (by decide) fl57 (fun _ h9 => h9) rfl (by decide +kernel) rfl rfl (Nat.le_of_ble_eq_true rfl) dX3_open_41 (fun H locs hP hD hS => ?_)
      have hP : va_P G vwCl (W3 k a C n0 M n1 d 1) H := hP
      have hD : va_D A (W3 k a C n0 M n1 d 1) := hD
      refine lv_aload_n hx hb dX3_open_44 rfl (lv_at hl 0 rfl) ?_
      refine va_get (D := G) (ci := 5) (v := .int 1) (C := RX3) (T := TX3) (N := 19) hx hb hts hinX3 hown hK hP 0 rfl rfl 18 (by decide) fl57 (fun _ h9 => h9) rfl dX3_open_45 ?_
      refine lv_if_le (tgt := 53) hx hb dX3_open_48 (by decide) (fun c9 => absurd c9 (by decide)) (fun _ => ?_)
      refine lv_iconst (v := 0) hx hb dX3_open_51 (by decide) ?_
      have hPf : va_P G vwCl (W3 k a ((o_open x due C n0 M n1 d).2.2.1) ((o_open x due C n0 M n1 d).2.2.2.2) ((o_open x due C n0 M n1 d).2.2.2.1) n1 d ((o_open x due C n0 M n1 d).1)) H := by unfold o_open; (all_goals try first | rw [if_pos c9] | rw [if_neg c9]); (all_goals try first | rw [if_pos c20] | rw [if_neg c20]); (all_goals try rw [hv]); exact hP
      exact W.iret (v := 0) hx hb hr (fun τ hτ hW => ⟨⟨_, (), rfl, (by unfold o_open; (all_goals try first | rw [if_pos c9] | rw [if_neg c9]); (all_goals try first | rw [if_pos c20] | rw [if_neg c20]); (all_goals try rfl)), yPt hPf hτ⟩, hS.F hτ⟩) hS.2.2 dX3_open_52

set_option maxHeartbeats 4000000 in
set_option maxRecDepth 100000 in
theorem c_X3_amount (l : Launch) (G : va_G) (k : Nat → ClassId) (a : Nat → Nat) (C : Nat → Nat → Int32) (n0 : Nat) (M : Nat → Nat → Int32) (n1 : Nat) (d : Nat) (th : Int32) (sz : Nat) (x : Int32) (hND : va_D (fun _ => True) (W3 k a C n0 M n1 d th)) (hn : n0 ≤ 8) : Met l yX3_amount wsX3_amount ({ frames := 2, cells := 0, slots := 0, locals := 43 }) (va_Pc [.ref (a 0), .int x] (yBs G (yT k) (W3 k a C n0 M n1 d th) sz)) (va_Qi (fun (r : Int32) (_ : Unit) => r = (o_amount x C n0).2) (fun _ τ => va_P G vwCl (W3 k a C n0 M n1 d ((o_amount x C n0).1)) τ.heap) (va_A (W3 k a C n0 M n1 d th) sz)) 0 0 (va_A (W3 k a C n0 M n1 d th) sz) := by
  refine Met.ofW (cc := cX3_amount) (maxL := 2) (ret := (some .int)) (by decide) rfl ?_
  intro p e s m args below meth c_ s₁ B hml hv
  obtain ⟨rfl, hsz, hP, hK⟩ := hv
  have hx := B.exec
  have hb := B.bytes
  have hr := B.returns
  have hts := atoms_spec (ws := wsX3_amount) B.pre
  have hown : s.vm.findClass RX3 = some m.cls := findClass_of_methodNamed B.named
  have hlocks := B.notSynchronized
  have hsz0 : (8 : Nat) < 2 ^ 31 := by decide
  have hsz1 : (80 : Nat) < 2 ^ 31 := by decide
  subst hsz
  have hD := hND.self (sz := s.heap.size)
  generalize hAe : va_A (W3 k a C n0 M n1 d th) s.heap.size = A at hD ⊢
  have hA : ∀ q : Nat, s.heap.size ≤ q → A q := fun q h => by rw [← hAe]; exact Or.inr h
  have hS : va_S A s.heap s.heap [] := va_S.rf
  have hinX3 : ∀ w ∈ u_ws RX3 TX3 19, w ∈ wsX3_amount := by decide +kernel
  have fl9 := hts (.fieldLink RX3 9 "DunningDeskModel" "amounts" "[I") (by decide +kernel)
  have hl := lv_entry [.ref (a 0), .int x] (n := 2) (Nat.le_of_ble_eq_true rfl)
  rw [lg_entry_eq]
  generalize (lg_sl [.ref (a 0), .int x] ++ List.replicate (2 - (lg_sl [.ref (a 0), .int x]).length) Slot.unset).toArray = ls at hl ⊢
  have hl : lv_has ls 2 [(0, .ref (a 0)), (1, .int x)] := hl
  refine lv_aload_n hx hb dX3_amount_0 rfl (lv_at hl 0 rfl) ?_
  refine lv_iload_n hx hb dX3_amount_1 rfl (lv_at hl 1 rfl) ?_
  have hfr9 : ∀ q, va_A (W3 k a C n0 M n1 d th) _ q → A q := va_free hD hS hA [0, 1, 2, 3, 4, 5, 6, 7, 8, 9, 10, 11, 12, 13, 14, 15] rfl
  refine y_rwV (w := W3 k a C n0 M n1 d th) (w' := fun (_ : Unit) => W3 k a C n0 M n1 d (if inR x n0 then 0 else 1)) (As := [.int x]) (rest := []) ⟨hx, hb, hml, hown, hts⟩ (c_X3_noCase l G k a C n0 M n1 d th _ x (yD hND rfl) (by omega)) (cwV 1 hts gX3_amount_X3_noCase rfl rfl rfl (by decide +kernel) ⟨Nat.le_of_ble_eq_true rfl, Nat.le_of_ble_eq_true rfl⟩) hK hP (va_recv hK hP (ci := 5) (q0 := 0) rfl rfl) hS hfr9 rfl hl.1 rfl (Nat.le_of_ble_eq_true rfl) dX3_amount_2 ⟨Nat.le_of_ble_eq_true rfl, Nat.le_of_ble_eq_true rfl⟩ (fun r u9 H1 locs1 hr9 hP9 hz9 hk9 hS9 => ?_)
  have hP9 : va_P G vwCl (W3 k a C n0 M n1 d (if inR x n0 then 0 else 1)) H1 := hP9
  have hD9 : va_D A (W3 k a C n0 M n1 d (if inR x n0 then 0 else 1)) := yD hD rfl
  clear hP hD hS hfr9 hz9 hk9
  have hP := hP9
  have hD := hD9
  have hS := hS9
  clear hP9 hD9 hS9
  subst hr9
  refine lv_if_eq (tgt := 12) hx hb dX3_amount_5 (by decide) (fun c5 => ?_) (fun c5 => ?_)
  · replace c5 : inR x n0 := Classical.not_not.mp (b2_of0 c5)
    rw [if_pos c5] at hP hD
    obtain ⟨j, hj, rfl⟩ := inR_of (by omega) c5
    refine lv_aload_n hx hb dX3_amount_12 rfl (lv_at hl 0 rfl) ?_
    refine va_get (D := G) (ci := 5) (v := .ref (a 1)) (C := RX3) (T := TX3) (N := 19) hx hb hts hinX3 hown hK hP 0 rfl rfl 0 (by decide) fl9 (fun _ h9 => h9) rfl dX3_amount_13 ?_
    refine lv_iload_n hx hb dX3_amount_16 rfl (lv_at hl 1 rfl) ?_
    refine y_iald hx hb hK hP 1 0 rfl rfl (j := j) (by omega) hsz0 dX3_amount_17 ?_
    have hPf : va_P G vwCl (W3 k a C n0 M n1 d ((o_amount (nI j) C n0).1)) H1 := by unfold o_amount; (all_goals try first | rw [if_pos c5] | rw [if_neg c5]); (all_goals try simp only [clI (show j < 80 by omega)]); (all_goals try first | rw [if_pos c5] | rw [if_neg c5]); exact hP
    exact W.iret (v := (C 0 j)) hx hb hr (fun τ hτ hW => ⟨⟨_, (), rfl, (by unfold o_amount; (all_goals try first | rw [if_pos c5] | rw [if_neg c5]); (all_goals try simp only [clI (show j < 80 by omega)]); (all_goals try first | rw [if_pos c5] | rw [if_neg c5]); (all_goals try rfl)), yPt hPf hτ⟩, hS.F hτ⟩) hS.2.2 dX3_amount_18
  · replace c5 : ¬ inR x n0 := b2_of1 c5
    rw [if_neg c5] at hP hD
    refine lv_iconst (v := 0) hx hb dX3_amount_8 (by decide) ?_
    refine lv_goto (tgt := 18) hx hb dX3_amount_9 (by decide) ?_
    have hPf : va_P G vwCl (W3 k a C n0 M n1 d ((o_amount x C n0).1)) H1 := by unfold o_amount; (all_goals try first | rw [if_pos c5] | rw [if_neg c5]); exact hP
    exact W.iret (v := 0) hx hb hr (fun τ hτ hW => ⟨⟨_, (), rfl, (by unfold o_amount; (all_goals try first | rw [if_pos c5] | rw [if_neg c5]); (all_goals try rfl)), yPt hPf hτ⟩, hS.F hτ⟩) hS.2.2 dX3_amount_18

set_option maxHeartbeats 4000000 in
set_option maxRecDepth 100000 in
theorem c_X3_letters (l : Launch) (G : va_G) (k : Nat → ClassId) (a : Nat → Nat) (C : Nat → Nat → Int32) (n0 : Nat) (M : Nat → Nat → Int32) (n1 : Nat) (d : Nat) (th : Int32) (sz : Nat) (x : Int32) (hND : va_D (fun _ => True) (W3 k a C n0 M n1 d th)) (hn : n0 ≤ 8) : Met l yX3_letters wsX3_letters ({ frames := 2, cells := 0, slots := 0, locals := 43 }) (va_Pc [.ref (a 0), .int x] (yBs G (yT k) (W3 k a C n0 M n1 d th) sz)) (va_Qi (fun (r : Int32) (_ : Unit) => r = (o_letters x C n0).2) (fun _ τ => va_P G vwCl (W3 k a C n0 M n1 d ((o_letters x C n0).1)) τ.heap) (va_A (W3 k a C n0 M n1 d th) sz)) 0 0 (va_A (W3 k a C n0 M n1 d th) sz) := by
  refine Met.ofW (cc := cX3_letters) (maxL := 2) (ret := (some .int)) (by decide) rfl ?_
  intro p e s m args below meth c_ s₁ B hml hv
  obtain ⟨rfl, hsz, hP, hK⟩ := hv
  have hx := B.exec
  have hb := B.bytes
  have hr := B.returns
  have hts := atoms_spec (ws := wsX3_letters) B.pre
  have hown : s.vm.findClass RX3 = some m.cls := findClass_of_methodNamed B.named
  have hlocks := B.notSynchronized
  have hsz0 : (8 : Nat) < 2 ^ 31 := by decide
  have hsz1 : (80 : Nat) < 2 ^ 31 := by decide
  subst hsz
  have hD := hND.self (sz := s.heap.size)
  generalize hAe : va_A (W3 k a C n0 M n1 d th) s.heap.size = A at hD ⊢
  have hA : ∀ q : Nat, s.heap.size ≤ q → A q := fun q h => by rw [← hAe]; exact Or.inr h
  have hS : va_S A s.heap s.heap [] := va_S.rf
  have hinX3 : ∀ w ∈ u_ws RX3 TX3 19, w ∈ wsX3_letters := by decide +kernel
  have fl16 := hts (.fieldLink RX3 16 "DunningDeskModel" "letters" "[I") (by decide +kernel)
  have hl := lv_entry [.ref (a 0), .int x] (n := 2) (Nat.le_of_ble_eq_true rfl)
  rw [lg_entry_eq]
  generalize (lg_sl [.ref (a 0), .int x] ++ List.replicate (2 - (lg_sl [.ref (a 0), .int x]).length) Slot.unset).toArray = ls at hl ⊢
  have hl : lv_has ls 2 [(0, .ref (a 0)), (1, .int x)] := hl
  refine lv_aload_n hx hb dX3_letters_0 rfl (lv_at hl 0 rfl) ?_
  refine lv_iload_n hx hb dX3_letters_1 rfl (lv_at hl 1 rfl) ?_
  have hfr9 : ∀ q, va_A (W3 k a C n0 M n1 d th) _ q → A q := va_free hD hS hA [0, 1, 2, 3, 4, 5, 6, 7, 8, 9, 10, 11, 12, 13, 14, 15] rfl
  refine y_rwV (w := W3 k a C n0 M n1 d th) (w' := fun (_ : Unit) => W3 k a C n0 M n1 d (if inR x n0 then 0 else 1)) (As := [.int x]) (rest := []) ⟨hx, hb, hml, hown, hts⟩ (c_X3_noCase l G k a C n0 M n1 d th _ x (yD hND rfl) (by omega)) (cwV 1 hts gX3_letters_X3_noCase rfl rfl rfl (by decide +kernel) ⟨Nat.le_of_ble_eq_true rfl, Nat.le_of_ble_eq_true rfl⟩) hK hP (va_recv hK hP (ci := 5) (q0 := 0) rfl rfl) hS hfr9 rfl hl.1 rfl (Nat.le_of_ble_eq_true rfl) dX3_letters_2 ⟨Nat.le_of_ble_eq_true rfl, Nat.le_of_ble_eq_true rfl⟩ (fun r u9 H1 locs1 hr9 hP9 hz9 hk9 hS9 => ?_)
  have hP9 : va_P G vwCl (W3 k a C n0 M n1 d (if inR x n0 then 0 else 1)) H1 := hP9
  have hD9 : va_D A (W3 k a C n0 M n1 d (if inR x n0 then 0 else 1)) := yD hD rfl
  clear hP hD hS hfr9 hz9 hk9
  have hP := hP9
  have hD := hD9
  have hS := hS9
  clear hP9 hD9 hS9
  subst hr9
  refine lv_if_eq (tgt := 12) hx hb dX3_letters_5 (by decide) (fun c5 => ?_) (fun c5 => ?_)
  · replace c5 : inR x n0 := Classical.not_not.mp (b2_of0 c5)
    rw [if_pos c5] at hP hD
    obtain ⟨j, hj, rfl⟩ := inR_of (by omega) c5
    refine lv_aload_n hx hb dX3_letters_12 rfl (lv_at hl 0 rfl) ?_
    refine va_get (D := G) (ci := 5) (v := .ref (a 3)) (C := RX3) (T := TX3) (N := 19) hx hb hts hinX3 hown hK hP 0 rfl rfl 2 (by decide) fl16 (fun _ h9 => h9) rfl dX3_letters_13 ?_
    refine lv_iload_n hx hb dX3_letters_16 rfl (lv_at hl 1 rfl) ?_
    refine y_iald hx hb hK hP 3 0 rfl rfl (j := j) (by omega) hsz0 dX3_letters_17 ?_
    have hPf : va_P G vwCl (W3 k a C n0 M n1 d ((o_letters (nI j) C n0).1)) H1 := by unfold o_letters; (all_goals try first | rw [if_pos c5] | rw [if_neg c5]); (all_goals try simp only [clI (show j < 80 by omega)]); (all_goals try first | rw [if_pos c5] | rw [if_neg c5]); exact hP
    exact W.iret (v := (C 2 j)) hx hb hr (fun τ hτ hW => ⟨⟨_, (), rfl, (by unfold o_letters; (all_goals try first | rw [if_pos c5] | rw [if_neg c5]); (all_goals try simp only [clI (show j < 80 by omega)]); (all_goals try first | rw [if_pos c5] | rw [if_neg c5]); (all_goals try rfl)), yPt hPf hτ⟩, hS.F hτ⟩) hS.2.2 dX3_letters_18
  · replace c5 : ¬ inR x n0 := b2_of1 c5
    rw [if_neg c5] at hP hD
    refine lv_iconst (v := 0) hx hb dX3_letters_8 (by decide) ?_
    refine lv_goto (tgt := 18) hx hb dX3_letters_9 (by decide) ?_
    have hPf : va_P G vwCl (W3 k a C n0 M n1 d ((o_letters x C n0).1)) H1 := by unfold o_letters; (all_goals try first | rw [if_pos c5] | rw [if_neg c5]); exact hP
    exact W.iret (v := 0) hx hb hr (fun τ hτ hW => ⟨⟨_, (), rfl, (by unfold o_letters; (all_goals try first | rw [if_pos c5] | rw [if_neg c5]); (all_goals try rfl)), yPt hPf hτ⟩, hS.F hτ⟩) hS.2.2 dX3_letters_18

set_option maxHeartbeats 4000000 in
set_option maxRecDepth 100000 in
theorem c_X3_lettersByMessages (l : Launch) (G : va_G) (k : Nat → ClassId) (a : Nat → Nat) (C : Nat → Nat → Int32) (n0 : Nat) (M : Nat → Nat → Int32) (n1 : Nat) (d : Nat) (th : Int32) (sz : Nat) (x : Int32) (hND : va_D (fun _ => True) (W3 k a C n0 M n1 d th)) (hn : n0 ≤ 8) : Met l yX3_lettersByMessages wsX3_lettersByMessages ({ frames := 3, cells := 0, slots := 0, locals := 64 }) (va_Pc [.ref (a 0), .int x] (yBs G (yT k) (W3 k a C n0 M n1 d th) sz)) (va_Qi (fun (r : Int32) (_ : Unit) => r = (o_letters x C n0).2) (fun _ τ => va_P G vwCl (W3 k a C n0 M n1 d ((o_letters x C n0).1)) τ.heap) (va_A (W3 k a C n0 M n1 d th) sz)) 0 0 (va_A (W3 k a C n0 M n1 d th) sz) := by
  refine Met.ofW (cc := cX3_lettersByMessages) (maxL := 2) (ret := (some .int)) (by decide) rfl ?_
  intro p e s m args below meth c_ s₁ B hml hv
  obtain ⟨rfl, hsz, hP, hK⟩ := hv
  have hx := B.exec
  have hb := B.bytes
  have hr := B.returns
  have hts := atoms_spec (ws := wsX3_lettersByMessages) B.pre
  have hown : s.vm.findClass RX3 = some m.cls := findClass_of_methodNamed B.named
  have hlocks := B.notSynchronized
  have hsz0 : (8 : Nat) < 2 ^ 31 := by decide
  have hsz1 : (80 : Nat) < 2 ^ 31 := by decide
  subst hsz
  have hD := hND.self (sz := s.heap.size)
  generalize hAe : va_A (W3 k a C n0 M n1 d th) s.heap.size = A at hD ⊢
  have hA : ∀ q : Nat, s.heap.size ≤ q → A q := fun q h => by rw [← hAe]; exact Or.inr h
  have hS : va_S A s.heap s.heap [] := va_S.rf
  have hl := lv_entry [.ref (a 0), .int x] (n := 2) (Nat.le_of_ble_eq_true rfl)
  rw [lg_entry_eq]
  generalize (lg_sl [.ref (a 0), .int x] ++ List.replicate (2 - (lg_sl [.ref (a 0), .int x]).length) Slot.unset).toArray = ls at hl ⊢
  have hl : lv_has ls 2 [(0, .ref (a 0)), (1, .int x)] := hl
  refine lv_aload_n hx hb dX3_lettersByMessages_0 rfl (lv_at hl 0 rfl) ?_
  refine lv_iload_n hx hb dX3_lettersByMessages_1 rfl (lv_at hl 1 rfl) ?_
  have hfr9 : ∀ q, va_A (W3 k a C n0 M n1 d th) _ q → A q := va_free hD hS hA [0, 1, 2, 3, 4, 5, 6, 7, 8, 9, 10, 11, 12, 13, 14, 15] rfl
  refine y_rwV (w := W3 k a C n0 M n1 d th) (w' := fun (_ : Unit) => W3 k a C n0 M n1 d ((o_letters x C n0).1)) (As := [.int x]) (rest := []) ⟨hx, hb, hml, hown, hts⟩ (c_X3_letters l G k a C n0 M n1 d th _ x (yD hND rfl) (by omega)) (cwV 1 hts gX3_lettersByMessages_X3_letters rfl rfl rfl (by decide +kernel) ⟨Nat.le_of_ble_eq_true rfl, Nat.le_of_ble_eq_true rfl⟩) hK hP (va_recv hK hP (ci := 5) (q0 := 0) rfl rfl) hS hfr9 rfl hl.1 rfl (Nat.le_of_ble_eq_true rfl) dX3_lettersByMessages_2 ⟨Nat.le_of_ble_eq_true rfl, Nat.le_of_ble_eq_true rfl⟩ (fun r u9 H1 locs1 hr9 hP9 hz9 hk9 hS9 => ?_)
  have hP9 : va_P G vwCl (W3 k a C n0 M n1 d ((o_letters x C n0).1)) H1 := hP9
  have hD9 : va_D A (W3 k a C n0 M n1 d ((o_letters x C n0).1)) := yD hD rfl
  clear hP hD hS hfr9 hz9 hk9
  have hP := hP9
  have hD := hD9
  have hS := hS9
  clear hP9 hD9 hS9
  subst hr9
  have hPf : va_P G vwCl (W3 k a C n0 M n1 d ((o_letters x C n0).1)) H1 := by exact hP
  exact W.iret (v := ((o_letters x C n0).2)) hx hb hr (fun τ hτ hW => ⟨⟨_, (), rfl, (by rfl), yPt hPf hτ⟩, hS.F hτ⟩) hS.2.2 dX3_lettersByMessages_5

set_option maxHeartbeats 4000000 in
set_option maxRecDepth 100000 in
theorem c_X3_pause (l : Launch) (G : va_G) (k : Nat → ClassId) (a : Nat → Nat) (C : Nat → Nat → Int32) (n0 : Nat) (M : Nat → Nat → Int32) (n1 : Nat) (d : Nat) (th : Int32) (sz : Nat) (x dd : Int32) (hND : va_D (fun _ => True) (W3 k a C n0 M n1 d th)) (hn : n0 ≤ 8) : Met l yX3_pause wsX3_pause ({ frames := 2, cells := 0, slots := 0, locals := 43 }) (va_Pc [.ref (a 0), .int x, .int dd] (yBs G (yT k) (W3 k a C n0 M n1 d th) sz)) (va_Qi (fun (r : Int32) (_ : Unit) => r = (o_pause x dd C n0 d).2.1) (fun _ τ => va_P G vwCl (W3 k a ((o_pause x dd C n0 d).2.2) n0 M n1 d ((o_pause x dd C n0 d).1)) τ.heap) (va_A (W3 k a C n0 M n1 d th) sz)) 0 0 (va_A (W3 k a C n0 M n1 d th) sz) := by
  refine Met.ofW (cc := cX3_pause) (maxL := 3) (ret := (some .int)) (by decide) rfl ?_
  intro p e s m args below meth c_ s₁ B hml hv
  obtain ⟨rfl, hsz, hP, hK⟩ := hv
  have hx := B.exec
  have hb := B.bytes
  have hr := B.returns
  have hts := atoms_spec (ws := wsX3_pause) B.pre
  have hown : s.vm.findClass RX3 = some m.cls := findClass_of_methodNamed B.named
  have hlocks := B.notSynchronized
  have hsz0 : (8 : Nat) < 2 ^ 31 := by decide
  have hsz1 : (80 : Nat) < 2 ^ 31 := by decide
  subst hsz
  have hD := hND.self (sz := s.heap.size)
  generalize hAe : va_A (W3 k a C n0 M n1 d th) s.heap.size = A at hD ⊢
  have hA : ∀ q : Nat, s.heap.size ≤ q → A q := fun q h => by rw [← hAe]; exact Or.inr h
  have hS : va_S A s.heap s.heap [] := va_S.rf
  have hinX3 : ∀ w ∈ u_ws RX3 TX3 19, w ∈ wsX3_pause := by decide +kernel
  have fl9 := hts (.fieldLink RX3 9 "DunningDeskModel" "amounts" "[I") (by decide +kernel)
  have fl57 := hts (.fieldLink RX3 57 "DunningDeskModel" "thrown" "I") (by decide +kernel)
  have fl19 := hts (.fieldLink RX3 19 "DunningDeskModel" "pausedTo" "[I") (by decide +kernel)
  have fl71 := hts (.fieldLink RX3 71 "DunningDeskModel" "day" "I") (by decide +kernel)
  have hl := lv_entry [.ref (a 0), .int x, .int dd] (n := 3) (Nat.le_of_ble_eq_true rfl)
  rw [lg_entry_eq]
  generalize (lg_sl [.ref (a 0), .int x, .int dd] ++ List.replicate (3 - (lg_sl [.ref (a 0), .int x, .int dd]).length) Slot.unset).toArray = ls at hl ⊢
  have hl : lv_has ls 3 [(0, .ref (a 0)), (1, .int x), (2, .int dd)] := hl
  refine lv_aload_n hx hb dX3_pause_0 rfl (lv_at hl 0 rfl) ?_
  refine lv_iload_n hx hb dX3_pause_1 rfl (lv_at hl 1 rfl) ?_
  have hfr9 : ∀ q, va_A (W3 k a C n0 M n1 d th) _ q → A q := va_free hD hS hA [0, 1, 2, 3, 4, 5, 6, 7, 8, 9, 10, 11, 12, 13, 14, 15] rfl
  refine y_rwV (w := W3 k a C n0 M n1 d th) (w' := fun (_ : Unit) => W3 k a C n0 M n1 d (if inR x n0 then 0 else 1)) (As := [.int x]) (rest := []) ⟨hx, hb, hml, hown, hts⟩ (c_X3_noCase l G k a C n0 M n1 d th _ x (yD hND rfl) (by omega)) (cwV 1 hts gX3_pause_X3_noCase rfl rfl rfl (by decide +kernel) ⟨Nat.le_of_ble_eq_true rfl, Nat.le_of_ble_eq_true rfl⟩) hK hP (va_recv hK hP (ci := 5) (q0 := 0) rfl rfl) hS hfr9 rfl hl.1 rfl (Nat.le_of_ble_eq_true rfl) dX3_pause_2 ⟨Nat.le_of_ble_eq_true rfl, Nat.le_of_ble_eq_true rfl⟩ (fun r u9 H1 locs1 hr9 hP9 hz9 hk9 hS9 => ?_)
  have hP9 : va_P G vwCl (W3 k a C n0 M n1 d (if inR x n0 then 0 else 1)) H1 := hP9
  have hD9 : va_D A (W3 k a C n0 M n1 d (if inR x n0 then 0 else 1)) := yD hD rfl
  clear hP hD hS hfr9 hz9 hk9
  have hP := hP9
  have hD := hD9
  have hS := hS9
  clear hP9 hD9 hS9
  subst hr9
  refine lv_if_eq (tgt := 10) hx hb dX3_pause_5 (by decide) (fun c5 => ?_) (fun c5 => ?_)
  · replace c5 : inR x n0 := Classical.not_not.mp (b2_of0 c5)
    rw [if_pos c5] at hP hD
    obtain ⟨j, hj, rfl⟩ := inR_of (by omega) c5
    refine lv_aload_n hx hb dX3_pause_10 rfl (lv_at hl 0 rfl) ?_
    refine lv_iload_n hx hb dX3_pause_11 rfl (lv_at hl 2 rfl) ?_
    refine lv_iconst (v := 1) hx hb dX3_pause_12 (by decide) ?_
    refine lv_bipush (v := 60) hx hb dX3_pause_13 (by decide) ?_
    refine y_roS (As := [.int dd, .int 1, .int 60]) (rest := [.ref (a 0)]) ⟨hx, hb, hml, hown, hts⟩ (c_X3_in l dd 1 60 ) (va_cwS 3 hts gX3_pause_X3_in rfl rfl rfl (by decide +kernel) ⟨Nat.le_of_ble_eq_true rfl, Nat.le_of_ble_eq_true rfl⟩) rfl hl.1 rfl (Nat.le_of_ble_eq_true rfl) dX3_pause_15 ⟨Nat.le_of_ble_eq_true rfl, Nat.le_of_ble_eq_true rfl⟩ (fun r hr9 => ?_)
    subst hr9
    refine lv_if_ne (tgt := 25) hx hb dX3_pause_18 (by decide) (fun c18 => ?_) (fun c18 => ?_)
    · replace c18 : rg 1 60 dd := b2_of1 c18
      refine lv_aload_n hx hb dX3_pause_25 rfl (lv_at hl 0 rfl) ?_
      refine va_get (D := G) (ci := 5) (v := .ref (a 1)) (C := RX3) (T := TX3) (N := 19) hx hb hts hinX3 hown hK hP 0 rfl rfl 0 (by decide) fl9 (fun _ h9 => h9) rfl dX3_pause_26 ?_
      refine lv_iload_n hx hb dX3_pause_29 rfl (lv_at hl 1 rfl) ?_
      refine y_iald hx hb hK hP 1 0 rfl rfl (j := j) (by omega) hsz0 dX3_pause_30 ?_
      refine lv_if_ne (tgt := 38) hx hb dX3_pause_31 (by decide) (fun c31 => ?_) (fun c31 => ?_)
      · skip
        refine lv_iconst (v := 0) hx hb dX3_pause_38 (by decide) ?_
        refine va_put (D := G) (ci := 5) (v := .int 0) (ty := .int) (C := RX3) (T := TX3) (N := 19) hx hb hts hinX3 tyX3 tyX3_ok nmX3 hown hK hP hD hS 0 rfl rfl 18 (by decide) fl57 (fun _ h9 => h9) rfl (by decide +kernel) rfl rfl (Nat.le_of_ble_eq_true rfl) dX3_pause_39 (fun H locs hP hD hS => ?_)
        have hP : va_P G vwCl (W3 k a C n0 M n1 d 0) H := hP
        have hD : va_D A (W3 k a C n0 M n1 d 0) := hD
        refine lv_aload_n hx hb dX3_pause_42 rfl (lv_at hl 0 rfl) ?_
        refine va_get (D := G) (ci := 5) (v := .int 0) (C := RX3) (T := TX3) (N := 19) hx hb hts hinX3 hown hK hP 0 rfl rfl 18 (by decide) fl57 (fun _ h9 => h9) rfl dX3_pause_43 ?_
        refine lv_if_le (tgt := 51) hx hb dX3_pause_46 (by decide) (fun _ => ?_) (fun c9 => absurd c9 (by decide))
        refine lv_aload_n hx hb dX3_pause_51 rfl (lv_at hl 0 rfl) ?_
        refine va_get (D := G) (ci := 5) (v := .ref (a 4)) (C := RX3) (T := TX3) (N := 19) hx hb hts hinX3 hown hK hP 0 rfl rfl 3 (by decide) fl19 (fun _ h9 => h9) rfl dX3_pause_52 ?_
        refine lv_iload_n hx hb dX3_pause_55 rfl (lv_at hl 1 rfl) ?_
        refine lv_aload_n hx hb dX3_pause_56 rfl (lv_at hl 0 rfl) ?_
        refine va_get (D := G) (ci := 5) (v := .ref (a 4)) (C := RX3) (T := TX3) (N := 19) hx hb hts hinX3 hown hK hP 0 rfl rfl 3 (by decide) fl19 (fun _ h9 => h9) rfl dX3_pause_57 ?_
        refine lv_iload_n hx hb dX3_pause_60 rfl (lv_at hl 1 rfl) ?_
        refine y_iald hx hb hK hP 4 0 rfl rfl (j := j) (by omega) hsz0 dX3_pause_61 ?_
        refine lv_aload_n hx hb dX3_pause_62 rfl (lv_at hl 0 rfl) ?_
        refine va_get (D := G) (ci := 5) (v := .int (nI d)) (C := RX3) (T := TX3) (N := 19) hx hb hts hinX3 hown hK hP 0 rfl rfl 17 (by decide) fl71 (fun _ h9 => h9) rfl dX3_pause_63 ?_
        refine lv_iload_n hx hb dX3_pause_66 rfl (lv_at hl 2 rfl) ?_
        refine lv_iadd hx hb dX3_pause_67 ?_
        refine va_mmax hx hb (hml.trans hl.1.symm) hown (hts (.methodLink RX3 74 Lib.Math.max.name) (by decide +kernel)) (hts (.static Lib.Math.max.name) (by decide +kernel)) (hts (.initialized "java/lang/Math") (by decide +kernel)) (hts (.code Lib.Math.max.name Lib.Math.max.code 2 (some .int)) (by decide +kernel)) (Nat.le_of_ble_eq_true rfl) (Nat.le_of_ble_eq_true rfl) (Nat.le_of_ble_eq_true rfl) (Nat.le_of_ble_eq_true rfl) dX3_pause_68 ?_
        refine y_top (y := mx (C 3 j) ((nI d) + dd)) rfl ?_
        refine y_iast (ws' := W3 k a (w2 C 3 j (mx (C 3 j) ((nI d) + dd))) n0 M n1 d 0) (j := j) (x := (mx (C 3 j) ((nI d) + dd))) hx hb hK hP hD hS 4 0 rfl rfl (by omega) hsz0 rfl dX3_pause_71 (fun H locs hP hD hS => ?_)
        refine lv_aload_n hx hb dX3_pause_72 rfl (lv_at hl 0 rfl) ?_
        refine va_get (D := G) (ci := 5) (v := .ref (a 4)) (C := RX3) (T := TX3) (N := 19) hx hb hts hinX3 hown hK hP 0 rfl rfl 3 (by decide) fl19 (fun _ h9 => h9) rfl dX3_pause_73 ?_
        refine lv_iload_n hx hb dX3_pause_76 rfl (lv_at hl 1 rfl) ?_
        refine y_iald hx hb hK hP 4 0 rfl rfl (j := j) (by omega) hsz0 dX3_pause_77 ?_
        refine y_top ((by rw [w2_k, pk_us] : w2 C 3 j (mx (C 3 j) (nI d + dd)) 3 j = mx (C 3 j) (nI d + dd))) ?_
        have hPf : va_P G vwCl (W3 k a ((o_pause (nI j) dd C n0 d).2.2) n0 M n1 d ((o_pause (nI j) dd C n0 d).1)) H := by unfold o_pause; (all_goals try first | rw [if_pos c5] | rw [if_neg c5]); (all_goals try first | rw [if_pos c18] | rw [if_neg c18]); (all_goals try first | rw [if_pos c31] | rw [if_neg c31]); (all_goals try simp only [clI (show j < 80 by omega)]); (all_goals try first | rw [if_pos c5] | rw [if_neg c5]); (all_goals try first | rw [if_pos c18] | rw [if_neg c18]); (all_goals try first | rw [if_pos c31] | rw [if_neg c31]); exact hP
        exact W.iret (v := (mx (C 3 j) (nI d + dd))) hx hb hr (fun τ hτ hW => ⟨⟨_, (), rfl, (by unfold o_pause; (all_goals try first | rw [if_pos c5] | rw [if_neg c5]); (all_goals try first | rw [if_pos c18] | rw [if_neg c18]); (all_goals try first | rw [if_pos c31] | rw [if_neg c31]); (all_goals try simp only [clI (show j < 80 by omega)]); (all_goals try first | rw [if_pos c5] | rw [if_neg c5]); (all_goals try first | rw [if_pos c18] | rw [if_neg c18]); (all_goals try first | rw [if_pos c31] | rw [if_neg c31]); (all_goals try rfl)), yPt hPf hτ⟩, hS.F hτ⟩) hS.2.2 dX3_pause_78
      · skip
        refine lv_iconst (v := 3) hx hb dX3_pause_34 (by decide) ?_
        refine lv_goto (tgt := 39) hx hb dX3_pause_35 (by decide) ?_
        refine va_put (D := G) (ci := 5) (v := .int 3) (ty := .int) (C := RX3) (T := TX3) (N := 19) hx hb hts hinX3 tyX3 tyX3_ok nmX3 hown hK hP hD hS 0 rfl rfl 18 (by decide) fl57 (fun _ h9 => h9) rfl (by decide +kernel) rfl rfl (Nat.le_of_ble_eq_true rfl) dX3_pause_39 (fun H locs hP hD hS => ?_)
        have hP : va_P G vwCl (W3 k a C n0 M n1 d 3) H := hP
        have hD : va_D A (W3 k a C n0 M n1 d 3) := hD
        refine lv_aload_n hx hb dX3_pause_42 rfl (lv_at hl 0 rfl) ?_
        refine va_get (D := G) (ci := 5) (v := .int 3) (C := RX3) (T := TX3) (N := 19) hx hb hts hinX3 hown hK hP 0 rfl rfl 18 (by decide) fl57 (fun _ h9 => h9) rfl dX3_pause_43 ?_
        refine lv_if_le (tgt := 51) hx hb dX3_pause_46 (by decide) (fun c9 => absurd c9 (by decide)) (fun _ => ?_)
        refine lv_iconst (v := 0) hx hb dX3_pause_49 (by decide) ?_
        have hPf : va_P G vwCl (W3 k a ((o_pause (nI j) dd C n0 d).2.2) n0 M n1 d ((o_pause (nI j) dd C n0 d).1)) H := by unfold o_pause; (all_goals try first | rw [if_pos c5] | rw [if_neg c5]); (all_goals try first | rw [if_pos c18] | rw [if_neg c18]); (all_goals try first | rw [if_pos c31] | rw [if_neg c31]); (all_goals try simp only [clI (show j < 80 by omega)]); (all_goals try first | rw [if_pos c5] | rw [if_neg c5]); (all_goals try first | rw [if_pos c18] | rw [if_neg c18]); (all_goals try first | rw [if_pos c31] | rw [if_neg c31]); exact hP
        exact W.iret (v := 0) hx hb hr (fun τ hτ hW => ⟨⟨_, (), rfl, (by unfold o_pause; (all_goals try first | rw [if_pos c5] | rw [if_neg c5]); (all_goals try first | rw [if_pos c18] | rw [if_neg c18]); (all_goals try first | rw [if_pos c31] | rw [if_neg c31]); (all_goals try simp only [clI (show j < 80 by omega)]); (all_goals try first | rw [if_pos c5] | rw [if_neg c5]); (all_goals try first | rw [if_pos c18] | rw [if_neg c18]); (all_goals try first | rw [if_pos c31] | rw [if_neg c31]); (all_goals try rfl)), yPt hPf hτ⟩, hS.F hτ⟩) hS.2.2 dX3_pause_50
    · replace c18 : ¬ (rg 1 60 dd) := b2_of0 c18
      refine lv_iconst (v := 2) hx hb dX3_pause_21 (by decide) ?_
      refine lv_goto (tgt := 39) hx hb dX3_pause_22 (by decide) ?_
      refine va_put (D := G) (ci := 5) (v := .int 2) (ty := .int) (C := RX3) (T := TX3) (N := 19) hx hb hts hinX3 tyX3 tyX3_ok nmX3 hown hK hP hD hS 0 rfl rfl 18 (by decide) fl57 (fun _ h9 => h9) rfl (by decide +kernel) rfl rfl (Nat.le_of_ble_eq_true rfl) dX3_pause_39 (fun H locs hP hD hS => ?_)
      have hP : va_P G vwCl (W3 k a C n0 M n1 d 2) H := hP
      have hD : va_D A (W3 k a C n0 M n1 d 2) := hD
      refine lv_aload_n hx hb dX3_pause_42 rfl (lv_at hl 0 rfl) ?_
      refine va_get (D := G) (ci := 5) (v := .int 2) (C := RX3) (T := TX3) (N := 19) hx hb hts hinX3 hown hK hP 0 rfl rfl 18 (by decide) fl57 (fun _ h9 => h9) rfl dX3_pause_43 ?_
      refine lv_if_le (tgt := 51) hx hb dX3_pause_46 (by decide) (fun c9 => absurd c9 (by decide)) (fun _ => ?_)
      refine lv_iconst (v := 0) hx hb dX3_pause_49 (by decide) ?_
      have hPf : va_P G vwCl (W3 k a ((o_pause (nI j) dd C n0 d).2.2) n0 M n1 d ((o_pause (nI j) dd C n0 d).1)) H := by unfold o_pause; (all_goals try first | rw [if_pos c5] | rw [if_neg c5]); (all_goals try first | rw [if_pos c18] | rw [if_neg c18]); (all_goals try simp only [clI (show j < 80 by omega)]); (all_goals try first | rw [if_pos c5] | rw [if_neg c5]); (all_goals try first | rw [if_pos c18] | rw [if_neg c18]); exact hP
      exact W.iret (v := 0) hx hb hr (fun τ hτ hW => ⟨⟨_, (), rfl, (by unfold o_pause; (all_goals try first | rw [if_pos c5] | rw [if_neg c5]); (all_goals try first | rw [if_pos c18] | rw [if_neg c18]); (all_goals try simp only [clI (show j < 80 by omega)]); (all_goals try first | rw [if_pos c5] | rw [if_neg c5]); (all_goals try first | rw [if_pos c18] | rw [if_neg c18]); (all_goals try rfl)), yPt hPf hτ⟩, hS.F hτ⟩) hS.2.2 dX3_pause_50
  · replace c5 : ¬ inR x n0 := b2_of1 c5
    rw [if_neg c5] at hP hD
    refine lv_iconst (v := 0) hx hb dX3_pause_8 (by decide) ?_
    have hPf : va_P G vwCl (W3 k a ((o_pause x dd C n0 d).2.2) n0 M n1 d ((o_pause x dd C n0 d).1)) H1 := by unfold o_pause; (all_goals try first | rw [if_pos c5] | rw [if_neg c5]); exact hP
    exact W.iret (v := 0) hx hb hr (fun τ hτ hW => ⟨⟨_, (), rfl, (by unfold o_pause; (all_goals try first | rw [if_pos c5] | rw [if_neg c5]); (all_goals try rfl)), yPt hPf hτ⟩, hS.F hτ⟩) hS.2.2 dX3_pause_9

set_option maxHeartbeats 4000000 in
set_option maxRecDepth 100000 in
theorem c_X3_awaitNote (l : Launch) (G : va_G) (k : Nat → ClassId) (a : Nat → Nat) (C : Nat → Nat → Int32) (n0 : Nat) (M : Nat → Nat → Int32) (n1 : Nat) (d : Nat) (th : Int32) (sz : Nat) (x : Int32) (hND : va_D (fun _ => True) (W3 k a C n0 M n1 d th)) (hn : n0 ≤ 8) (hw : ∀ z, z < n0 → C 4 z = 0 ∨ C 4 z = 1) : Met l yX3_awaitNote wsX3_awaitNote ({ frames := 2, cells := 0, slots := 0, locals := 43 }) (va_Pc [.ref (a 0), .int x] (yBs G (yT k) (W3 k a C n0 M n1 d th) sz)) (va_Qi (fun (r : Int32) (_ : Unit) => r = (o_awaitNote x C n0).2.1) (fun _ τ => va_P G vwCl (W3 k a ((o_awaitNote x C n0).2.2) n0 M n1 d ((o_awaitNote x C n0).1)) τ.heap) (va_A (W3 k a C n0 M n1 d th) sz)) 0 0 (va_A (W3 k a C n0 M n1 d th) sz) := by
  refine Met.ofW (cc := cX3_awaitNote) (maxL := 3) (ret := (some .boolean)) (by decide) rfl ?_
  intro p e s m args below meth c_ s₁ B hml hv
  obtain ⟨rfl, hsz, hP, hK⟩ := hv
  have hx := B.exec
  have hb := B.bytes
  have hr := B.returns
  have hts := atoms_spec (ws := wsX3_awaitNote) B.pre
  have hown : s.vm.findClass RX3 = some m.cls := findClass_of_methodNamed B.named
  have hlocks := B.notSynchronized
  have hsz0 : (8 : Nat) < 2 ^ 31 := by decide
  have hsz1 : (80 : Nat) < 2 ^ 31 := by decide
  subst hsz
  have hD := hND.self (sz := s.heap.size)
  generalize hAe : va_A (W3 k a C n0 M n1 d th) s.heap.size = A at hD ⊢
  have hA : ∀ q : Nat, s.heap.size ≤ q → A q := fun q h => by rw [← hAe]; exact Or.inr h
  have hS : va_S A s.heap s.heap [] := va_S.rf
  have hinX3 : ∀ w ∈ u_ws RX3 TX3 19, w ∈ wsX3_awaitNote := by decide +kernel
  have fl9 := hts (.fieldLink RX3 9 "DunningDeskModel" "amounts" "[I") (by decide +kernel)
  have fl57 := hts (.fieldLink RX3 57 "DunningDeskModel" "thrown" "I") (by decide +kernel)
  have fl22 := hts (.fieldLink RX3 22 "DunningDeskModel" "waits" "[Z") (by decide +kernel)
  have hl := lv_entry [.ref (a 0), .int x] (n := 3) (Nat.le_of_ble_eq_true rfl)
  rw [lg_entry_eq]
  generalize (lg_sl [.ref (a 0), .int x] ++ List.replicate (3 - (lg_sl [.ref (a 0), .int x]).length) Slot.unset).toArray = ls at hl ⊢
  have hl : lv_has ls 3 [(0, .ref (a 0)), (1, .int x)] := hl
  refine lv_aload_n hx hb dX3_awaitNote_0 rfl (lv_at hl 0 rfl) ?_
  refine lv_iload_n hx hb dX3_awaitNote_1 rfl (lv_at hl 1 rfl) ?_
  have hfr9 : ∀ q, va_A (W3 k a C n0 M n1 d th) _ q → A q := va_free hD hS hA [0, 1, 2, 3, 4, 5, 6, 7, 8, 9, 10, 11, 12, 13, 14, 15] rfl
  refine y_rwV (w := W3 k a C n0 M n1 d th) (w' := fun (_ : Unit) => W3 k a C n0 M n1 d (if inR x n0 then 0 else 1)) (As := [.int x]) (rest := []) ⟨hx, hb, hml, hown, hts⟩ (c_X3_noCase l G k a C n0 M n1 d th _ x (yD hND rfl) (by omega)) (cwV 1 hts gX3_awaitNote_X3_noCase rfl rfl rfl (by decide +kernel) ⟨Nat.le_of_ble_eq_true rfl, Nat.le_of_ble_eq_true rfl⟩) hK hP (va_recv hK hP (ci := 5) (q0 := 0) rfl rfl) hS hfr9 rfl hl.1 rfl (Nat.le_of_ble_eq_true rfl) dX3_awaitNote_2 ⟨Nat.le_of_ble_eq_true rfl, Nat.le_of_ble_eq_true rfl⟩ (fun r u9 H1 locs1 hr9 hP9 hz9 hk9 hS9 => ?_)
  have hP9 : va_P G vwCl (W3 k a C n0 M n1 d (if inR x n0 then 0 else 1)) H1 := hP9
  have hD9 : va_D A (W3 k a C n0 M n1 d (if inR x n0 then 0 else 1)) := yD hD rfl
  clear hP hD hS hfr9 hz9 hk9
  have hP := hP9
  have hD := hD9
  have hS := hS9
  clear hP9 hD9 hS9
  subst hr9
  refine lv_if_eq (tgt := 10) hx hb dX3_awaitNote_5 (by decide) (fun c5 => ?_) (fun c5 => ?_)
  · replace c5 : inR x n0 := Classical.not_not.mp (b2_of0 c5)
    rw [if_pos c5] at hP hD
    obtain ⟨j, hj, rfl⟩ := inR_of (by omega) c5
    refine lv_aload_n hx hb dX3_awaitNote_10 rfl (lv_at hl 0 rfl) ?_
    refine lv_aload_n hx hb dX3_awaitNote_11 rfl (lv_at hl 0 rfl) ?_
    refine va_get (D := G) (ci := 5) (v := .ref (a 1)) (C := RX3) (T := TX3) (N := 19) hx hb hts hinX3 hown hK hP 0 rfl rfl 0 (by decide) fl9 (fun _ h9 => h9) rfl dX3_awaitNote_12 ?_
    refine lv_iload_n hx hb dX3_awaitNote_15 rfl (lv_at hl 1 rfl) ?_
    refine y_iald hx hb hK hP 1 0 rfl rfl (j := j) (by omega) hsz0 dX3_awaitNote_16 ?_
    refine lv_if_ne (tgt := 24) hx hb dX3_awaitNote_17 (by decide) (fun c17 => ?_) (fun c17 => ?_)
    · skip
      refine lv_iconst (v := 0) hx hb dX3_awaitNote_24 (by decide) ?_
      refine va_put (D := G) (ci := 5) (v := .int 0) (ty := .int) (C := RX3) (T := TX3) (N := 19) hx hb hts hinX3 tyX3 tyX3_ok nmX3 hown hK hP hD hS 0 rfl rfl 18 (by decide) fl57 (fun _ h9 => h9) rfl (by decide +kernel) rfl rfl (Nat.le_of_ble_eq_true rfl) dX3_awaitNote_25 (fun H locs hP hD hS => ?_)
      have hP : va_P G vwCl (W3 k a C n0 M n1 d 0) H := hP
      have hD : va_D A (W3 k a C n0 M n1 d 0) := hD
      refine lv_aload_n hx hb dX3_awaitNote_28 rfl (lv_at hl 0 rfl) ?_
      refine va_get (D := G) (ci := 5) (v := .int 0) (C := RX3) (T := TX3) (N := 19) hx hb hts hinX3 hown hK hP 0 rfl rfl 18 (by decide) fl57 (fun _ h9 => h9) rfl dX3_awaitNote_29 ?_
      refine lv_if_le (tgt := 37) hx hb dX3_awaitNote_32 (by decide) (fun _ => ?_) (fun c9 => absurd c9 (by decide))
      refine lv_aload_n hx hb dX3_awaitNote_37 rfl (lv_at hl 0 rfl) ?_
      refine va_get (D := G) (ci := 5) (v := .ref (a 5)) (C := RX3) (T := TX3) (N := 19) hx hb hts hinX3 hown hK hP 0 rfl rfl 4 (by decide) fl22 (fun _ h9 => h9) rfl dX3_awaitNote_38 ?_
      refine lv_iload_n hx hb dX3_awaitNote_41 rfl (lv_at hl 1 rfl) ?_
      refine y_zald hx hb hK hP 5 1 rfl rfl (j := j) (by omega) hsz0 dX3_awaitNote_42 ?_
      refine lv_istore_n (lv' := [(2, .int (C 4 j)), (0, .ref (a 0)), (1, .int (nI j))]) hx hb dX3_awaitNote_43 rfl hl (by decide) rfl (fun ls hl => ?_)
      refine lv_aload_n hx hb dX3_awaitNote_44 rfl (lv_at hl 1 rfl) ?_
      refine va_get (D := G) (ci := 5) (v := .ref (a 5)) (C := RX3) (T := TX3) (N := 19) hx hb hts hinX3 hown hK hP 0 rfl rfl 4 (by decide) fl22 (fun _ h9 => h9) rfl dX3_awaitNote_45 ?_
      refine lv_iload_n hx hb dX3_awaitNote_48 rfl (lv_at hl 2 rfl) ?_
      refine lv_iconst (v := 1) hx hb dX3_awaitNote_49 (by decide) ?_
      refine y_zast (ws' := W3 k a (w2 C 4 j 1) n0 M n1 d 0) (j := j) (x := 1) hx hb hK hP hD hS 5 1 rfl rfl (by omega) hsz0 (by decide) rfl dX3_awaitNote_50 (fun H locs hP hD hS => ?_)
      refine lv_iload_n hx hb dX3_awaitNote_51 rfl (lv_at hl 0 rfl) ?_
      have hPf : va_P G vwCl (W3 k a ((o_awaitNote (nI j) C n0).2.2) n0 M n1 d ((o_awaitNote (nI j) C n0).1)) H := by unfold o_awaitNote; (all_goals try first | rw [if_pos c5] | rw [if_neg c5]); (all_goals try first | rw [if_pos c17] | rw [if_neg c17]); (all_goals try simp only [clI (show j < 80 by omega)]); (all_goals try first | rw [if_pos c5] | rw [if_neg c5]); (all_goals try first | rw [if_pos c17] | rw [if_neg c17]); exact hP
      exact W.zret (v := (C 4 j)) hx hb hr (b2_n9 (hw j hj)) (fun τ hτ hW => ⟨⟨_, (), rfl, (by unfold o_awaitNote; (all_goals try first | rw [if_pos c5] | rw [if_neg c5]); (all_goals try first | rw [if_pos c17] | rw [if_neg c17]); (all_goals try simp only [clI (show j < 80 by omega)]); (all_goals try first | rw [if_pos c5] | rw [if_neg c5]); (all_goals try first | rw [if_pos c17] | rw [if_neg c17]); (all_goals try rfl)), yPt hPf hτ⟩, hS.F hτ⟩) hS.2.2 dX3_awaitNote_52
    · skip
      refine lv_iconst (v := 2) hx hb dX3_awaitNote_20 (by decide) ?_
      refine lv_goto (tgt := 25) hx hb dX3_awaitNote_21 (by decide) ?_
      refine va_put (D := G) (ci := 5) (v := .int 2) (ty := .int) (C := RX3) (T := TX3) (N := 19) hx hb hts hinX3 tyX3 tyX3_ok nmX3 hown hK hP hD hS 0 rfl rfl 18 (by decide) fl57 (fun _ h9 => h9) rfl (by decide +kernel) rfl rfl (Nat.le_of_ble_eq_true rfl) dX3_awaitNote_25 (fun H locs hP hD hS => ?_)
      have hP : va_P G vwCl (W3 k a C n0 M n1 d 2) H := hP
      have hD : va_D A (W3 k a C n0 M n1 d 2) := hD
      refine lv_aload_n hx hb dX3_awaitNote_28 rfl (lv_at hl 0 rfl) ?_
      refine va_get (D := G) (ci := 5) (v := .int 2) (C := RX3) (T := TX3) (N := 19) hx hb hts hinX3 hown hK hP 0 rfl rfl 18 (by decide) fl57 (fun _ h9 => h9) rfl dX3_awaitNote_29 ?_
      refine lv_if_le (tgt := 37) hx hb dX3_awaitNote_32 (by decide) (fun c9 => absurd c9 (by decide)) (fun _ => ?_)
      refine lv_iconst (v := 0) hx hb dX3_awaitNote_35 (by decide) ?_
      have hPf : va_P G vwCl (W3 k a ((o_awaitNote (nI j) C n0).2.2) n0 M n1 d ((o_awaitNote (nI j) C n0).1)) H := by unfold o_awaitNote; (all_goals try first | rw [if_pos c5] | rw [if_neg c5]); (all_goals try first | rw [if_pos c17] | rw [if_neg c17]); (all_goals try simp only [clI (show j < 80 by omega)]); (all_goals try first | rw [if_pos c5] | rw [if_neg c5]); (all_goals try first | rw [if_pos c17] | rw [if_neg c17]); exact hP
      exact W.zret (v := 0) hx hb hr (by decide) (fun τ hτ hW => ⟨⟨_, (), rfl, (by unfold o_awaitNote; (all_goals try first | rw [if_pos c5] | rw [if_neg c5]); (all_goals try first | rw [if_pos c17] | rw [if_neg c17]); (all_goals try simp only [clI (show j < 80 by omega)]); (all_goals try first | rw [if_pos c5] | rw [if_neg c5]); (all_goals try first | rw [if_pos c17] | rw [if_neg c17]); (all_goals try rfl)), yPt hPf hτ⟩, hS.F hτ⟩) hS.2.2 dX3_awaitNote_36
  · replace c5 : ¬ inR x n0 := b2_of1 c5
    rw [if_neg c5] at hP hD
    refine lv_iconst (v := 0) hx hb dX3_awaitNote_8 (by decide) ?_
    have hPf : va_P G vwCl (W3 k a ((o_awaitNote x C n0).2.2) n0 M n1 d ((o_awaitNote x C n0).1)) H1 := by unfold o_awaitNote; (all_goals try first | rw [if_pos c5] | rw [if_neg c5]); exact hP
    exact W.zret (v := 0) hx hb hr (by decide) (fun τ hτ hW => ⟨⟨_, (), rfl, (by unfold o_awaitNote; (all_goals try first | rw [if_pos c5] | rw [if_neg c5]); (all_goals try rfl)), yPt hPf hτ⟩, hS.F hτ⟩) hS.2.2 dX3_awaitNote_9

set_option maxHeartbeats 4000000 in
set_option maxRecDepth 100000 in
theorem c_X3_find (l : Launch) (G : va_G) (k : Nat → ClassId) (a : Nat → Nat) (C : Nat → Nat → Int32) (n0 : Nat) (M : Nat → Nat → Int32) (n1 : Nat) (d : Nat) (th : Int32) (key : Int32) (hn1 : n1 ≤ 80) : Met l yX3_find wsX3_find ({ frames := 0, cells := 0, slots := 0, locals := 0 }) (va_Pc [.ref (a 0), .int key] (yB G (yT k) (W3 k a C n0 M n1 d th))) (vp_Si (fun r => r = oI (fnd (M 1) key n1 0))) 0 0 (fun _ => False) := by
  refine Met.ofW (cc := cX3_find) (maxL := 3) (ret := (some .int)) (by decide) rfl ?_
  intro p e s m args below meth c_ s₁ B hml hv
  obtain ⟨rfl, hP, hK⟩ := hv
  have hx := B.exec
  have hb := B.bytes
  have hr := B.returns
  have hts := atoms_spec (ws := wsX3_find) B.pre
  have hown : s.vm.findClass RX3 = some m.cls := findClass_of_methodNamed B.named
  have hlocks := B.notSynchronized
  have hsz0 : (8 : Nat) < 2 ^ 31 := by decide
  have hsz1 : (80 : Nat) < 2 ^ 31 := by decide
  have hinX3 : ∀ w ∈ u_ws RX3 TX3 19, w ∈ wsX3_find := by decide +kernel
  have fl68 := hts (.fieldLink RX3 68 "DunningDeskModel" "messages" "I") (by decide +kernel)
  have fl29 := hts (.fieldLink RX3 29 "DunningDeskModel" "keys" "[I") (by decide +kernel)
  have hl := lv_entry [.ref (a 0), .int key] (n := 3) (Nat.le_of_ble_eq_true rfl)
  rw [lg_entry_eq]
  generalize (lg_sl [.ref (a 0), .int key] ++ List.replicate (3 - (lg_sl [.ref (a 0), .int key]).length) Slot.unset).toArray = ls at hl ⊢
  have hl : lv_has ls 3 [(0, .ref (a 0)), (1, .int key)] := hl
  refine lv_iconst (v := 0) hx hb dX3_find_0 (by decide) ?_
  refine lv_istore_n (lv' := [(2, .int 0), (0, .ref (a 0)), (1, .int key)]) hx hb dX3_find_1 rfl hl (by decide) rfl (fun ls hl => ?_)
  have hl : lv_has ls 3 [(2, .int (nI 0)), (0, .ref (a 0)), (1, .int key)] := lv_sub hl [0, 1, 2] rfl
  refine y_loop (σ := Nat) (fun r xσ H locs ls => xσ + r = n1 ∧ fnd (M 1) key n1 0 = fnd (M 1) key r xσ ∧ H = s.heap ∧ locs = [] ∧ lv_has ls 3 [(2, .int (nI xσ)), (0, .ref (a 0)), (1, .int key)]) (fun r xσ H locs ls hI ih2 => ?_) n1 0 _ _ _ ⟨(by omega), rfl, rfl, rfl, hl⟩
  obtain ⟨i, rfl⟩ : ∃ z, z = xσ := ⟨xσ, rfl⟩
  obtain ⟨hi, hv, rfl, rfl, hl⟩ := hI
  refine lv_iload_n hx hb dX3_find_2 rfl (lv_at hl 0 rfl) ?_
  refine lv_aload_n hx hb dX3_find_3 rfl (lv_at hl 1 rfl) ?_
  refine va_get (D := G) (ci := 5) (v := .int (nI n1)) (C := RX3) (T := TX3) (N := 19) hx hb hts hinX3 hown hK hP 0 rfl rfl 16 (by decide) fl68 (fun _ h9 => h9) rfl dX3_find_4 ?_
  refine lv_icmp_ge (tgt := 28) hx hb dX3_find_7 (by decide) (fun c7 => ?_) (fun c7 => ?_)
  · replace c7 : n1 ≤ i := (nI_leI (a := n1) (b := i) (by omega) (by omega)).mp c7
    refine lv_iconst (v := (-1)) hx hb dX3_find_28 (by decide) ?_
    exact W.iret (v := (-1)) hx hb hr (fun τ hτ _ => ⟨_, rfl, (by (obtain rfl : r = 0 := by omega); rw [hv]; rfl), hτ⟩) (fun _ h9 => nomatch h9) dX3_find_29
  · replace c7 : ¬ n1 ≤ i := fun h9 => c7 ((nI_leI (a := n1) (b := i) (by omega) (by omega)).mpr h9)
    obtain ⟨r', rfl⟩ : ∃ r', r = r' + 1 := ⟨r - 1, by omega⟩
    refine lv_aload_n hx hb dX3_find_10 rfl (lv_at hl 1 rfl) ?_
    refine va_get (D := G) (ci := 5) (v := .ref (a 7)) (C := RX3) (T := TX3) (N := 19) hx hb hts hinX3 hown hK hP 0 rfl rfl 7 (by decide) fl29 (fun _ h9 => h9) rfl dX3_find_11 ?_
    refine lv_iload_n hx hb dX3_find_14 rfl (lv_at hl 0 rfl) ?_
    refine y_iald hx hb hK hP 7 0 rfl rfl (j := i) (by omega) hsz1 dX3_find_15 ?_
    refine lv_iload_n hx hb dX3_find_16 rfl (lv_at hl 2 rfl) ?_
    refine lv_icmp_ne (tgt := 22) hx hb dX3_find_17 (by decide) (fun c17 => ?_) (fun c17 => ?_)
    · skip
      refine lv_iinc (v := nI (i + 1)) (lv' := [(2, .int (nI (i + 1))), (0, .ref (a 0)), (1, .int key)]) hx hb dX3_find_22 hl (k := 0) rfl (nI_1 i) (by decide) rfl (fun ls hl => ?_)
      refine lv_goto (tgt := 2) hx hb dX3_find_25 (by decide) ?_
      exact ih2 r' (i + 1) _ _ _ (by omega) ⟨(by omega), (by rw [hv]; exact if_neg c17), rfl, rfl, lv_sub hl [0, 1, 2] rfl⟩
    · skip
      refine lv_iload_n hx hb dX3_find_20 rfl (lv_at hl 0 rfl) ?_
      exact W.iret (v := (nI i)) hx hb hr (fun τ hτ _ => ⟨_, rfl, (by rw [hv]; show nI i = oI (if M 1 i = key then _ else _); rw [if_pos c17]; rfl), hτ⟩) (fun _ h9 => nomatch h9) dX3_find_21

set_option maxHeartbeats 4000000 in
set_option maxRecDepth 100000 in
theorem c_X3_mayRemind (l : Launch) (G : va_G) (k : Nat → ClassId) (a : Nat → Nat) (C : Nat → Nat → Int32) (n0 : Nat) (M : Nat → Nat → Int32) (n1 : Nat) (d : Nat) (th : Int32) (i : Nat) (hi : i < 8) (hn1 : n1 ≤ 80) : Met l yX3_mayRemind wsX3_mayRemind ({ frames := 1, cells := 0, slots := 0, locals := 22 }) (va_Pc [.ref (a 0), .int (nI i)] (yB G (yT k) (W3 k a C n0 M n1 d th))) (vp_Si (fun r => r = b2 (may C M n1 i))) 0 0 (fun _ => False) := by
  refine Met.ofW (cc := cX3_mayRemind) (maxL := 3) (ret := (some .boolean)) (by decide) rfl ?_
  intro p e s m args below meth c_ s₁ B hml hv
  obtain ⟨rfl, hP, hK⟩ := hv
  have hx := B.exec
  have hb := B.bytes
  have hr := B.returns
  have hts := atoms_spec (ws := wsX3_mayRemind) B.pre
  have hown : s.vm.findClass RX3 = some m.cls := findClass_of_methodNamed B.named
  have hlocks := B.notSynchronized
  have hsz0 : (8 : Nat) < 2 ^ 31 := by decide
  have hsz1 : (80 : Nat) < 2 ^ 31 := by decide
  have hinX3 : ∀ w ∈ u_ws RX3 TX3 19, w ∈ wsX3_mayRemind := by decide +kernel
  have fl9 := hts (.fieldLink RX3 9 "DunningDeskModel" "amounts" "[I") (by decide +kernel)
  have fl22 := hts (.fieldLink RX3 22 "DunningDeskModel" "waits" "[Z") (by decide +kernel)
  have fl16 := hts (.fieldLink RX3 16 "DunningDeskModel" "letters" "[I") (by decide +kernel)
  have hl := lv_entry [.ref (a 0), .int (nI i)] (n := 3) (Nat.le_of_ble_eq_true rfl)
  rw [lg_entry_eq]
  generalize (lg_sl [.ref (a 0), .int (nI i)] ++ List.replicate (3 - (lg_sl [.ref (a 0), .int (nI i)]).length) Slot.unset).toArray = ls at hl ⊢
  have hl : lv_has ls 3 [(0, .ref (a 0)), (1, .int (nI i))] := hl
  refine lv_aload_n hx hb dX3_mayRemind_0 rfl (lv_at hl 0 rfl) ?_
  refine va_get (D := G) (ci := 5) (v := .ref (a 1)) (C := RX3) (T := TX3) (N := 19) hx hb hts hinX3 hown hK hP 0 rfl rfl 0 (by decide) fl9 (fun _ h9 => h9) rfl dX3_mayRemind_1 ?_
  refine lv_iload_n hx hb dX3_mayRemind_4 rfl (lv_at hl 1 rfl) ?_
  refine y_iald hx hb hK hP 1 0 rfl rfl (j := i) (by omega) hsz0 dX3_mayRemind_5 ?_
  refine lv_if_le (tgt := 32) hx hb dX3_mayRemind_6 (by decide) (fun c6 => ?_) (fun c6 => ?_)
  · skip
    refine lv_iconst (v := 0) hx hb dX3_mayRemind_32 (by decide) ?_
    refine lv_istore_n (lv' := [(2, .int 0), (0, .ref (a 0)), (1, .int (nI i))]) hx hb dX3_mayRemind_33 rfl hl (by decide) rfl (fun ls hl => ?_)
    refine lv_iload_n hx hb dX3_mayRemind_34 rfl (lv_at hl 0 rfl) ?_
    refine lv_if_eq (tgt := 65) hx hb dX3_mayRemind_35 (by decide) (fun _ => ?_) (fun c9 => absurd c9 (by decide))
    refine lv_iconst (v := 0) hx hb dX3_mayRemind_65 (by decide) ?_
    exact W.zret (v := 0) hx hb hr (by decide) (fun τ hτ _ => ⟨_, rfl, (by first | exact (b2_f (fun h9 => absurd h9.1.1 (Int32.not_lt.mpr c6))).symm | exact (b2_f (fun h9 => c15 h9.1.2.1)).symm | exact (b2_f (fun h9 => absurd h9.1.2.2 (Int32.not_lt.mpr c25))).symm | exact (b2_f (fun h9 => c58 h9.2)).symm | exact (b2_t ⟨⟨Int32.not_le.mp c6, c15, Int32.not_le.mp c25⟩, c58⟩).symm), hτ⟩) (fun _ h9 => nomatch h9) dX3_mayRemind_66
  · skip
    refine lv_aload_n hx hb dX3_mayRemind_9 rfl (lv_at hl 0 rfl) ?_
    refine va_get (D := G) (ci := 5) (v := .ref (a 5)) (C := RX3) (T := TX3) (N := 19) hx hb hts hinX3 hown hK hP 0 rfl rfl 4 (by decide) fl22 (fun _ h9 => h9) rfl dX3_mayRemind_10 ?_
    refine lv_iload_n hx hb dX3_mayRemind_13 rfl (lv_at hl 1 rfl) ?_
    refine y_zald hx hb hK hP 5 1 rfl rfl (j := i) (by omega) hsz0 dX3_mayRemind_14 ?_
    refine lv_if_ne (tgt := 32) hx hb dX3_mayRemind_15 (by decide) (fun c15 => ?_) (fun c15 => ?_)
    · skip
      refine lv_iconst (v := 0) hx hb dX3_mayRemind_32 (by decide) ?_
      refine lv_istore_n (lv' := [(2, .int 0), (0, .ref (a 0)), (1, .int (nI i))]) hx hb dX3_mayRemind_33 rfl hl (by decide) rfl (fun ls hl => ?_)
      refine lv_iload_n hx hb dX3_mayRemind_34 rfl (lv_at hl 0 rfl) ?_
      refine lv_if_eq (tgt := 65) hx hb dX3_mayRemind_35 (by decide) (fun _ => ?_) (fun c9 => absurd c9 (by decide))
      refine lv_iconst (v := 0) hx hb dX3_mayRemind_65 (by decide) ?_
      exact W.zret (v := 0) hx hb hr (by decide) (fun τ hτ _ => ⟨_, rfl, (by first | exact (b2_f (fun h9 => absurd h9.1.1 (Int32.not_lt.mpr c6))).symm | exact (b2_f (fun h9 => c15 h9.1.2.1)).symm | exact (b2_f (fun h9 => absurd h9.1.2.2 (Int32.not_lt.mpr c25))).symm | exact (b2_f (fun h9 => c58 h9.2)).symm | exact (b2_t ⟨⟨Int32.not_le.mp c6, c15, Int32.not_le.mp c25⟩, c58⟩).symm), hτ⟩) (fun _ h9 => nomatch h9) dX3_mayRemind_66
    · skip
      refine lv_aload_n hx hb dX3_mayRemind_18 rfl (lv_at hl 0 rfl) ?_
      refine va_get (D := G) (ci := 5) (v := .ref (a 3)) (C := RX3) (T := TX3) (N := 19) hx hb hts hinX3 hown hK hP 0 rfl rfl 2 (by decide) fl16 (fun _ h9 => h9) rfl dX3_mayRemind_19 ?_
      refine lv_iload_n hx hb dX3_mayRemind_22 rfl (lv_at hl 1 rfl) ?_
      refine y_iald hx hb hK hP 3 0 rfl rfl (j := i) (by omega) hsz0 dX3_mayRemind_23 ?_
      refine lv_iconst (v := 3) hx hb dX3_mayRemind_24 (by decide) ?_
      refine lv_icmp_ge (tgt := 32) hx hb dX3_mayRemind_25 (by decide) (fun c25 => ?_) (fun c25 => ?_)
      · skip
        refine lv_iconst (v := 0) hx hb dX3_mayRemind_32 (by decide) ?_
        refine lv_istore_n (lv' := [(2, .int 0), (0, .ref (a 0)), (1, .int (nI i))]) hx hb dX3_mayRemind_33 rfl hl (by decide) rfl (fun ls hl => ?_)
        refine lv_iload_n hx hb dX3_mayRemind_34 rfl (lv_at hl 0 rfl) ?_
        refine lv_if_eq (tgt := 65) hx hb dX3_mayRemind_35 (by decide) (fun _ => ?_) (fun c9 => absurd c9 (by decide))
        refine lv_iconst (v := 0) hx hb dX3_mayRemind_65 (by decide) ?_
        exact W.zret (v := 0) hx hb hr (by decide) (fun τ hτ _ => ⟨_, rfl, (by first | exact (b2_f (fun h9 => absurd h9.1.1 (Int32.not_lt.mpr c6))).symm | exact (b2_f (fun h9 => c15 h9.1.2.1)).symm | exact (b2_f (fun h9 => absurd h9.1.2.2 (Int32.not_lt.mpr c25))).symm | exact (b2_f (fun h9 => c58 h9.2)).symm | exact (b2_t ⟨⟨Int32.not_le.mp c6, c15, Int32.not_le.mp c25⟩, c58⟩).symm), hτ⟩) (fun _ h9 => nomatch h9) dX3_mayRemind_66
      · skip
        refine lv_iconst (v := 1) hx hb dX3_mayRemind_28 (by decide) ?_
        refine lv_goto (tgt := 33) hx hb dX3_mayRemind_29 (by decide) ?_
        refine lv_istore_n (lv' := [(2, .int 1), (0, .ref (a 0)), (1, .int (nI i))]) hx hb dX3_mayRemind_33 rfl hl (by decide) rfl (fun ls hl => ?_)
        refine lv_iload_n hx hb dX3_mayRemind_34 rfl (lv_at hl 0 rfl) ?_
        refine lv_if_eq (tgt := 65) hx hb dX3_mayRemind_35 (by decide) (fun c9 => absurd c9 (by decide)) (fun _ => ?_)
        refine lv_aload_n hx hb dX3_mayRemind_38 rfl (lv_at hl 1 rfl) ?_
        refine lv_sipush (v := 1000) hx hb dX3_mayRemind_39 (by decide) ?_
        refine lv_bipush (v := 10) hx hb dX3_mayRemind_42 (by decide) ?_
        refine lv_iload_n hx hb dX3_mayRemind_44 rfl (lv_at hl 2 rfl) ?_
        refine lv_imul hx hb dX3_mayRemind_45 ?_
        refine lv_iadd hx hb dX3_mayRemind_46 ?_
        refine lv_aload_n hx hb dX3_mayRemind_47 rfl (lv_at hl 1 rfl) ?_
        refine va_get (D := G) (ci := 5) (v := .ref (a 3)) (C := RX3) (T := TX3) (N := 19) hx hb hts hinX3 hown hK hP 0 rfl rfl 2 (by decide) fl16 (fun _ h9 => h9) rfl dX3_mayRemind_48 ?_
        refine lv_iload_n hx hb dX3_mayRemind_51 rfl (lv_at hl 2 rfl) ?_
        refine y_iald hx hb hK hP 3 0 rfl rfl (j := i) (by omega) hsz0 dX3_mayRemind_52 ?_
        refine lv_iadd hx hb dX3_mayRemind_53 ?_
        refine y_roV (As := [.int ((1000 + (10 * (nI i))) + (C 2 i))]) (rest := []) ⟨hx, hb, hml, hown, hts⟩ (c_X3_find l G k a C n0 M n1 d th ((1000 + (10 * (nI i))) + (C 2 i)) (by omega)) (cwV 1 hts gX3_mayRemind_X3_find rfl rfl rfl (by decide +kernel) ⟨Nat.le_of_ble_eq_true rfl, Nat.le_of_ble_eq_true rfl⟩) hK hP (va_recv hK hP (ci := 5) (q0 := 0) rfl rfl) rfl hl.1 rfl (Nat.le_of_ble_eq_true rfl) dX3_mayRemind_54 ⟨Nat.le_of_ble_eq_true rfl, Nat.le_of_ble_eq_true rfl⟩ (fun r hr9 => ?_)
        subst hr9
        refine lv_iconst (v := (-1)) hx hb dX3_mayRemind_57 (by decide) ?_
        refine lv_icmp_ne (tgt := 65) hx hb dX3_mayRemind_58 (by decide) (fun c58 => ?_) (fun c58 => ?_)
        · replace c58 : ¬ fnd (M 1) (1000 + 10 * nI i + C 2 i) n1 0 = none := fun h9 => c58 (by rw [h9]; rfl)
          refine lv_iconst (v := 0) hx hb dX3_mayRemind_65 (by decide) ?_
          exact W.zret (v := 0) hx hb hr (by decide) (fun τ hτ _ => ⟨_, rfl, (by first | exact (b2_f (fun h9 => absurd h9.1.1 (Int32.not_lt.mpr c6))).symm | exact (b2_f (fun h9 => c15 h9.1.2.1)).symm | exact (b2_f (fun h9 => absurd h9.1.2.2 (Int32.not_lt.mpr c25))).symm | exact (b2_f (fun h9 => c58 h9.2)).symm | exact (b2_t ⟨⟨Int32.not_le.mp c6, c15, Int32.not_le.mp c25⟩, c58⟩).symm), hτ⟩) (fun _ h9 => nomatch h9) dX3_mayRemind_66
        · replace c58 : fnd (M 1) (1000 + 10 * nI i + C 2 i) n1 0 = none := oI_none (fun z h => by have := fnd_lt h; omega) c58
          refine lv_iconst (v := 1) hx hb dX3_mayRemind_61 (by decide) ?_
          refine lv_goto (tgt := 66) hx hb dX3_mayRemind_62 (by decide) ?_
          exact W.zret (v := 1) hx hb hr (by decide) (fun τ hτ _ => ⟨_, rfl, (by first | exact (b2_f (fun h9 => absurd h9.1.1 (Int32.not_lt.mpr c6))).symm | exact (b2_f (fun h9 => c15 h9.1.2.1)).symm | exact (b2_f (fun h9 => absurd h9.1.2.2 (Int32.not_lt.mpr c25))).symm | exact (b2_f (fun h9 => c58 h9.2)).symm | exact (b2_t ⟨⟨Int32.not_le.mp c6, c15, Int32.not_le.mp c25⟩, c58⟩).symm), hτ⟩) (fun _ h9 => nomatch h9) dX3_mayRemind_66

set_option maxHeartbeats 4000000 in
set_option maxRecDepth 100000 in
theorem c_X3_remindsFrom (l : Launch) (G : va_G) (k : Nat → ClassId) (a : Nat → Nat) (C : Nat → Nat → Int32) (n0 : Nat) (M : Nat → Nat → Int32) (n1 : Nat) (d : Nat) (th : Int32) (i : Nat) (hi : i < 8) : Met l yX3_remindsFrom wsX3_remindsFrom ({ frames := 1, cells := 0, slots := 0, locals := 21 }) (va_Pc [.ref (a 0), .int (nI i)] (yB G (yT k) (W3 k a C n0 M n1 d th))) (vp_Si (fun r => r = rfr C i)) 0 0 (fun _ => False) := by
  refine Met.ofW (cc := cX3_remindsFrom) (maxL := 2) (ret := (some .int)) (by decide) rfl ?_
  intro p e s m args below meth c_ s₁ B hml hv
  obtain ⟨rfl, hP, hK⟩ := hv
  have hx := B.exec
  have hb := B.bytes
  have hr := B.returns
  have hts := atoms_spec (ws := wsX3_remindsFrom) B.pre
  have hown : s.vm.findClass RX3 = some m.cls := findClass_of_methodNamed B.named
  have hlocks := B.notSynchronized
  have hsz0 : (8 : Nat) < 2 ^ 31 := by decide
  have hsz1 : (80 : Nat) < 2 ^ 31 := by decide
  have hinX3 : ∀ w ∈ u_ws RX3 TX3 19, w ∈ wsX3_remindsFrom := by decide +kernel
  have fl19 := hts (.fieldLink RX3 19 "DunningDeskModel" "pausedTo" "[I") (by decide +kernel)
  have fl13 := hts (.fieldLink RX3 13 "DunningDeskModel" "dues" "[I") (by decide +kernel)
  have fl16 := hts (.fieldLink RX3 16 "DunningDeskModel" "letters" "[I") (by decide +kernel)
  have hl := lv_entry [.ref (a 0), .int (nI i)] (n := 2) (Nat.le_of_ble_eq_true rfl)
  rw [lg_entry_eq]
  generalize (lg_sl [.ref (a 0), .int (nI i)] ++ List.replicate (2 - (lg_sl [.ref (a 0), .int (nI i)]).length) Slot.unset).toArray = ls at hl ⊢
  have hl : lv_has ls 2 [(0, .ref (a 0)), (1, .int (nI i))] := hl
  refine lv_aload_n hx hb dX3_remindsFrom_0 rfl (lv_at hl 0 rfl) ?_
  refine va_get (D := G) (ci := 5) (v := .ref (a 4)) (C := RX3) (T := TX3) (N := 19) hx hb hts hinX3 hown hK hP 0 rfl rfl 3 (by decide) fl19 (fun _ h9 => h9) rfl dX3_remindsFrom_1 ?_
  refine lv_iload_n hx hb dX3_remindsFrom_4 rfl (lv_at hl 1 rfl) ?_
  refine y_iald hx hb hK hP 4 0 rfl rfl (j := i) (by omega) hsz0 dX3_remindsFrom_5 ?_
  refine lv_aload_n hx hb dX3_remindsFrom_6 rfl (lv_at hl 0 rfl) ?_
  refine va_get (D := G) (ci := 5) (v := .ref (a 2)) (C := RX3) (T := TX3) (N := 19) hx hb hts hinX3 hown hK hP 0 rfl rfl 1 (by decide) fl13 (fun _ h9 => h9) rfl dX3_remindsFrom_7 ?_
  refine lv_iload_n hx hb dX3_remindsFrom_10 rfl (lv_at hl 1 rfl) ?_
  refine y_iald hx hb hK hP 2 0 rfl rfl (j := i) (by omega) hsz0 dX3_remindsFrom_11 ?_
  refine lv_bipush (v := 7) hx hb dX3_remindsFrom_12 (by decide) ?_
  refine lv_aload_n hx hb dX3_remindsFrom_14 rfl (lv_at hl 0 rfl) ?_
  refine va_get (D := G) (ci := 5) (v := .ref (a 3)) (C := RX3) (T := TX3) (N := 19) hx hb hts hinX3 hown hK hP 0 rfl rfl 2 (by decide) fl16 (fun _ h9 => h9) rfl dX3_remindsFrom_15 ?_
  refine lv_iload_n hx hb dX3_remindsFrom_18 rfl (lv_at hl 1 rfl) ?_
  refine y_iald hx hb hK hP 3 0 rfl rfl (j := i) (by omega) hsz0 dX3_remindsFrom_19 ?_
  refine lv_imul hx hb dX3_remindsFrom_20 ?_
  refine lv_iadd hx hb dX3_remindsFrom_21 ?_
  refine lv_iconst (v := 1) hx hb dX3_remindsFrom_22 (by decide) ?_
  refine lv_iadd hx hb dX3_remindsFrom_23 ?_
  refine va_mmax hx hb (hml.trans hl.1.symm) hown (hts (.methodLink RX3 74 Lib.Math.max.name) (by decide +kernel)) (hts (.static Lib.Math.max.name) (by decide +kernel)) (hts (.initialized "java/lang/Math") (by decide +kernel)) (hts (.code Lib.Math.max.name Lib.Math.max.code 2 (some .int)) (by decide +kernel)) (Nat.le_of_ble_eq_true rfl) (Nat.le_of_ble_eq_true rfl) (Nat.le_of_ble_eq_true rfl) (Nat.le_of_ble_eq_true rfl) dX3_remindsFrom_24 ?_
  refine y_top (y := mx (C 3 i) (((C 1 i) + (7 * (C 2 i))) + 1)) rfl ?_
  exact W.iret (v := (mx (C 3 i) (((C 1 i) + (7 * (C 2 i))) + 1))) hx hb hr (fun τ hτ _ => ⟨_, rfl, (by rfl), hτ⟩) (fun _ h9 => nomatch h9) dX3_remindsFrom_27

set_option maxHeartbeats 4000000 in
set_option maxRecDepth 100000 in
theorem c_X3_nextReminder (l : Launch) (G : va_G) (k : Nat → ClassId) (a : Nat → Nat) (C : Nat → Nat → Int32) (n0 : Nat) (M : Nat → Nat → Int32) (n1 : Nat) (d : Nat) (th : Int32) (sz : Nat) (x : Int32) (hND : va_D (fun _ => True) (W3 k a C n0 M n1 d th)) (hn : n0 ≤ 8) (hn1 : n1 ≤ 80) : Met l yX3_nextReminder wsX3_nextReminder ({ frames := 2, cells := 0, slots := 0, locals := 44 }) (va_Pc [.ref (a 0), .int x] (yBs G (yT k) (W3 k a C n0 M n1 d th) sz)) (va_Qi (fun (r : Int32) (_ : Unit) => r = (o_nextReminder x C n0 M n1 d).2) (fun _ τ => va_P G vwCl (W3 k a C n0 M n1 d ((o_nextReminder x C n0 M n1 d).1)) τ.heap) (va_A (W3 k a C n0 M n1 d th) sz)) 0 0 (va_A (W3 k a C n0 M n1 d th) sz) := by
  refine Met.ofW (cc := cX3_nextReminder) (maxL := 2) (ret := (some .int)) (by decide) rfl ?_
  intro p e s m args below meth c_ s₁ B hml hv
  obtain ⟨rfl, hsz, hP, hK⟩ := hv
  have hx := B.exec
  have hb := B.bytes
  have hr := B.returns
  have hts := atoms_spec (ws := wsX3_nextReminder) B.pre
  have hown : s.vm.findClass RX3 = some m.cls := findClass_of_methodNamed B.named
  have hlocks := B.notSynchronized
  have hsz0 : (8 : Nat) < 2 ^ 31 := by decide
  have hsz1 : (80 : Nat) < 2 ^ 31 := by decide
  subst hsz
  have hD := hND.self (sz := s.heap.size)
  generalize hAe : va_A (W3 k a C n0 M n1 d th) s.heap.size = A at hD ⊢
  have hA : ∀ q : Nat, s.heap.size ≤ q → A q := fun q h => by rw [← hAe]; exact Or.inr h
  have hS : va_S A s.heap s.heap [] := va_S.rf
  have hinX3 : ∀ w ∈ u_ws RX3 TX3 19, w ∈ wsX3_nextReminder := by decide +kernel
  have fl57 := hts (.fieldLink RX3 57 "DunningDeskModel" "thrown" "I") (by decide +kernel)
  have fl71 := hts (.fieldLink RX3 71 "DunningDeskModel" "day" "I") (by decide +kernel)
  have hl := lv_entry [.ref (a 0), .int x] (n := 2) (Nat.le_of_ble_eq_true rfl)
  rw [lg_entry_eq]
  generalize (lg_sl [.ref (a 0), .int x] ++ List.replicate (2 - (lg_sl [.ref (a 0), .int x]).length) Slot.unset).toArray = ls at hl ⊢
  have hl : lv_has ls 2 [(0, .ref (a 0)), (1, .int x)] := hl
  refine lv_aload_n hx hb dX3_nextReminder_0 rfl (lv_at hl 0 rfl) ?_
  refine lv_iload_n hx hb dX3_nextReminder_1 rfl (lv_at hl 1 rfl) ?_
  have hfr9 : ∀ q, va_A (W3 k a C n0 M n1 d th) _ q → A q := va_free hD hS hA [0, 1, 2, 3, 4, 5, 6, 7, 8, 9, 10, 11, 12, 13, 14, 15] rfl
  refine y_rwV (w := W3 k a C n0 M n1 d th) (w' := fun (_ : Unit) => W3 k a C n0 M n1 d (if inR x n0 then 0 else 1)) (As := [.int x]) (rest := []) ⟨hx, hb, hml, hown, hts⟩ (c_X3_noCase l G k a C n0 M n1 d th _ x (yD hND rfl) (by omega)) (cwV 1 hts gX3_nextReminder_X3_noCase rfl rfl rfl (by decide +kernel) ⟨Nat.le_of_ble_eq_true rfl, Nat.le_of_ble_eq_true rfl⟩) hK hP (va_recv hK hP (ci := 5) (q0 := 0) rfl rfl) hS hfr9 rfl hl.1 rfl (Nat.le_of_ble_eq_true rfl) dX3_nextReminder_2 ⟨Nat.le_of_ble_eq_true rfl, Nat.le_of_ble_eq_true rfl⟩ (fun r u9 H1 locs1 hr9 hP9 hz9 hk9 hS9 => ?_)
  have hP9 : va_P G vwCl (W3 k a C n0 M n1 d (if inR x n0 then 0 else 1)) H1 := hP9
  have hD9 : va_D A (W3 k a C n0 M n1 d (if inR x n0 then 0 else 1)) := yD hD rfl
  clear hP hD hS hfr9 hz9 hk9
  have hP := hP9
  have hD := hD9
  have hS := hS9
  clear hP9 hD9 hS9
  subst hr9
  refine lv_if_eq (tgt := 10) hx hb dX3_nextReminder_5 (by decide) (fun c5 => ?_) (fun c5 => ?_)
  · replace c5 : inR x n0 := Classical.not_not.mp (b2_of0 c5)
    rw [if_pos c5] at hP hD
    obtain ⟨j, hj, rfl⟩ := inR_of (by omega) c5
    refine lv_aload_n hx hb dX3_nextReminder_10 rfl (lv_at hl 0 rfl) ?_
    refine lv_aload_n hx hb dX3_nextReminder_11 rfl (lv_at hl 0 rfl) ?_
    refine lv_iload_n hx hb dX3_nextReminder_12 rfl (lv_at hl 1 rfl) ?_
    refine y_roV (As := [.int (nI j)]) (rest := [.ref (a 0)]) ⟨hx, hb, hml, hown, hts⟩ (c_X3_mayRemind l G k a C n0 M n1 d 0 j (by omega) (by omega)) (cwV 1 hts gX3_nextReminder_X3_mayRemind rfl rfl rfl (by decide +kernel) ⟨Nat.le_of_ble_eq_true rfl, Nat.le_of_ble_eq_true rfl⟩) hK hP (va_recv hK hP (ci := 5) (q0 := 0) rfl rfl) rfl hl.1 rfl (Nat.le_of_ble_eq_true rfl) dX3_nextReminder_13 ⟨Nat.le_of_ble_eq_true rfl, Nat.le_of_ble_eq_true rfl⟩ (fun r hr9 => ?_)
    subst hr9
    refine lv_if_eq (tgt := 23) hx hb dX3_nextReminder_16 (by decide) (fun c16 => ?_) (fun c16 => ?_)
    · replace c16 : ¬ (may C M n1 j) := b2_of0 c16
      refine lv_iconst (v := 2) hx hb dX3_nextReminder_23 (by decide) ?_
      refine va_put (D := G) (ci := 5) (v := .int 2) (ty := .int) (C := RX3) (T := TX3) (N := 19) hx hb hts hinX3 tyX3 tyX3_ok nmX3 hown hK hP hD hS 0 rfl rfl 18 (by decide) fl57 (fun _ h9 => h9) rfl (by decide +kernel) rfl rfl (Nat.le_of_ble_eq_true rfl) dX3_nextReminder_24 (fun H locs hP hD hS => ?_)
      have hP : va_P G vwCl (W3 k a C n0 M n1 d 2) H := hP
      have hD : va_D A (W3 k a C n0 M n1 d 2) := hD
      refine lv_aload_n hx hb dX3_nextReminder_27 rfl (lv_at hl 0 rfl) ?_
      refine va_get (D := G) (ci := 5) (v := .int 2) (C := RX3) (T := TX3) (N := 19) hx hb hts hinX3 hown hK hP 0 rfl rfl 18 (by decide) fl57 (fun _ h9 => h9) rfl dX3_nextReminder_28 ?_
      refine lv_if_le (tgt := 38) hx hb dX3_nextReminder_31 (by decide) (fun c9 => absurd c9 (by decide)) (fun _ => ?_)
      refine lv_iconst (v := 0) hx hb dX3_nextReminder_34 (by decide) ?_
      refine lv_goto (tgt := 52) hx hb dX3_nextReminder_35 (by decide) ?_
      have hPf : va_P G vwCl (W3 k a C n0 M n1 d ((o_nextReminder (nI j) C n0 M n1 d).1)) H := by unfold o_nextReminder; (all_goals try first | rw [if_pos c5] | rw [if_neg c5]); (all_goals try first | rw [if_pos c16] | rw [if_neg c16]); (all_goals try simp only [clI (show j < 80 by omega)]); (all_goals try first | rw [if_pos c5] | rw [if_neg c5]); (all_goals try first | rw [if_pos c16] | rw [if_neg c16]); exact hP
      exact W.iret (v := 0) hx hb hr (fun τ hτ hW => ⟨⟨_, (), rfl, (by unfold o_nextReminder; (all_goals try first | rw [if_pos c5] | rw [if_neg c5]); (all_goals try first | rw [if_pos c16] | rw [if_neg c16]); (all_goals try simp only [clI (show j < 80 by omega)]); (all_goals try first | rw [if_pos c5] | rw [if_neg c5]); (all_goals try first | rw [if_pos c16] | rw [if_neg c16]); (all_goals try rfl)), yPt hPf hτ⟩, hS.F hτ⟩) hS.2.2 dX3_nextReminder_52
    · replace c16 : may C M n1 j := b2_of1 c16
      refine lv_iconst (v := 0) hx hb dX3_nextReminder_19 (by decide) ?_
      refine lv_goto (tgt := 24) hx hb dX3_nextReminder_20 (by decide) ?_
      refine va_put (D := G) (ci := 5) (v := .int 0) (ty := .int) (C := RX3) (T := TX3) (N := 19) hx hb hts hinX3 tyX3 tyX3_ok nmX3 hown hK hP hD hS 0 rfl rfl 18 (by decide) fl57 (fun _ h9 => h9) rfl (by decide +kernel) rfl rfl (Nat.le_of_ble_eq_true rfl) dX3_nextReminder_24 (fun H locs hP hD hS => ?_)
      have hP : va_P G vwCl (W3 k a C n0 M n1 d 0) H := hP
      have hD : va_D A (W3 k a C n0 M n1 d 0) := hD
      refine lv_aload_n hx hb dX3_nextReminder_27 rfl (lv_at hl 0 rfl) ?_
      refine va_get (D := G) (ci := 5) (v := .int 0) (C := RX3) (T := TX3) (N := 19) hx hb hts hinX3 hown hK hP 0 rfl rfl 18 (by decide) fl57 (fun _ h9 => h9) rfl dX3_nextReminder_28 ?_
      refine lv_if_le (tgt := 38) hx hb dX3_nextReminder_31 (by decide) (fun _ => ?_) (fun c9 => absurd c9 (by decide))
      refine lv_aload_n hx hb dX3_nextReminder_38 rfl (lv_at hl 0 rfl) ?_
      refine va_get (D := G) (ci := 5) (v := .int (nI d)) (C := RX3) (T := TX3) (N := 19) hx hb hts hinX3 hown hK hP 0 rfl rfl 17 (by decide) fl71 (fun _ h9 => h9) rfl dX3_nextReminder_39 ?_
      refine lv_iconst (v := 1) hx hb dX3_nextReminder_42 (by decide) ?_
      refine lv_iadd hx hb dX3_nextReminder_43 ?_
      refine y_top (nI_1 d) ?_
      refine lv_aload_n hx hb dX3_nextReminder_44 rfl (lv_at hl 0 rfl) ?_
      refine lv_iload_n hx hb dX3_nextReminder_45 rfl (lv_at hl 1 rfl) ?_
      refine y_roV (As := [.int (nI j)]) (rest := [.int (nI (d + 1))]) ⟨hx, hb, hml, hown, hts⟩ (c_X3_remindsFrom l G k a C n0 M n1 d 0 j (by omega)) (cwV 1 hts gX3_nextReminder_X3_remindsFrom rfl rfl rfl (by decide +kernel) ⟨Nat.le_of_ble_eq_true rfl, Nat.le_of_ble_eq_true rfl⟩) hK hP (va_recv hK hP (ci := 5) (q0 := 0) rfl rfl) rfl hl.1 rfl (Nat.le_of_ble_eq_true rfl) dX3_nextReminder_46 ⟨Nat.le_of_ble_eq_true rfl, Nat.le_of_ble_eq_true rfl⟩ (fun r hr9 => ?_)
      subst hr9
      refine va_mmax hx hb (hml.trans hl.1.symm) hown (hts (.methodLink RX3 74 Lib.Math.max.name) (by decide +kernel)) (hts (.static Lib.Math.max.name) (by decide +kernel)) (hts (.initialized "java/lang/Math") (by decide +kernel)) (hts (.code Lib.Math.max.name Lib.Math.max.code 2 (some .int)) (by decide +kernel)) (Nat.le_of_ble_eq_true rfl) (Nat.le_of_ble_eq_true rfl) (Nat.le_of_ble_eq_true rfl) (Nat.le_of_ble_eq_true rfl) dX3_nextReminder_49 ?_
      refine y_top (y := mx (nI (d + 1)) (rfr C j)) rfl ?_
      have hPf : va_P G vwCl (W3 k a C n0 M n1 d ((o_nextReminder (nI j) C n0 M n1 d).1)) H := by unfold o_nextReminder; (all_goals try first | rw [if_pos c5] | rw [if_neg c5]); (all_goals try first | rw [if_pos c16] | rw [if_neg c16]); (all_goals try simp only [clI (show j < 80 by omega)]); (all_goals try first | rw [if_pos c5] | rw [if_neg c5]); (all_goals try first | rw [if_pos c16] | rw [if_neg c16]); exact hP
      exact W.iret (v := (mx (nI (d + 1)) (rfr C j))) hx hb hr (fun τ hτ hW => ⟨⟨_, (), rfl, (by unfold o_nextReminder; (all_goals try first | rw [if_pos c5] | rw [if_neg c5]); (all_goals try first | rw [if_pos c16] | rw [if_neg c16]); (all_goals try simp only [clI (show j < 80 by omega)]); (all_goals try first | rw [if_pos c5] | rw [if_neg c5]); (all_goals try first | rw [if_pos c16] | rw [if_neg c16]); (all_goals try rfl)), yPt hPf hτ⟩, hS.F hτ⟩) hS.2.2 dX3_nextReminder_52
  · replace c5 : ¬ inR x n0 := b2_of1 c5
    rw [if_neg c5] at hP hD
    refine lv_iconst (v := 0) hx hb dX3_nextReminder_8 (by decide) ?_
    have hPf : va_P G vwCl (W3 k a C n0 M n1 d ((o_nextReminder x C n0 M n1 d).1)) H1 := by unfold o_nextReminder; (all_goals try first | rw [if_pos c5] | rw [if_neg c5]); exact hP
    exact W.iret (v := 0) hx hb hr (fun τ hτ hW => ⟨⟨_, (), rfl, (by unfold o_nextReminder; (all_goals try first | rw [if_pos c5] | rw [if_neg c5]); (all_goals try rfl)), yPt hPf hτ⟩, hS.F hτ⟩) hS.2.2 dX3_nextReminder_9

set_option maxHeartbeats 4000000 in
set_option maxRecDepth 100000 in
theorem c_X3_isReady (l : Launch) (G : va_G) (k : Nat → ClassId) (a : Nat → Nat) (C : Nat → Nat → Int32) (n0 : Nat) (M : Nat → Nat → Int32) (n1 : Nat) (d : Nat) (th : Int32) (i : Nat) (q : Int32) (hi : i < 80) : Met l yX3_isReady wsX3_isReady ({ frames := 0, cells := 0, slots := 0, locals := 0 }) (va_Pc [.ref (a 0), .int (nI i), .int q] (yB G (yT k) (W3 k a C n0 M n1 d th))) (vp_Si (fun r => r = b2 (rdy M q (nI d) i))) 0 0 (fun _ => False) := by
  refine Met.ofW (cc := cX3_isReady) (maxL := 3) (ret := (some .boolean)) (by decide) rfl ?_
  intro p e s m args below meth c_ s₁ B hml hv
  obtain ⟨rfl, hP, hK⟩ := hv
  have hx := B.exec
  have hb := B.bytes
  have hr := B.returns
  have hts := atoms_spec (ws := wsX3_isReady) B.pre
  have hown : s.vm.findClass RX3 = some m.cls := findClass_of_methodNamed B.named
  have hlocks := B.notSynchronized
  have hsz0 : (8 : Nat) < 2 ^ 31 := by decide
  have hsz1 : (80 : Nat) < 2 ^ 31 := by decide
  have hinX3 : ∀ w ∈ u_ws RX3 TX3 19, w ∈ wsX3_isReady := by decide +kernel
  have fl26 := hts (.fieldLink RX3 26 "DunningDeskModel" "queues" "[I") (by decide +kernel)
  have fl48 := hts (.fieldLink RX3 48 "DunningDeskModel" "states" "[C") (by decide +kernel)
  have fl42 := hts (.fieldLink RX3 42 "DunningDeskModel" "readyOn" "[I") (by decide +kernel)
  have fl71 := hts (.fieldLink RX3 71 "DunningDeskModel" "day" "I") (by decide +kernel)
  have hl := lv_entry [.ref (a 0), .int (nI i), .int q] (n := 3) (Nat.le_of_ble_eq_true rfl)
  rw [lg_entry_eq]
  generalize (lg_sl [.ref (a 0), .int (nI i), .int q] ++ List.replicate (3 - (lg_sl [.ref (a 0), .int (nI i), .int q]).length) Slot.unset).toArray = ls at hl ⊢
  have hl : lv_has ls 3 [(0, .ref (a 0)), (1, .int (nI i)), (2, .int q)] := hl
  refine lv_aload_n hx hb dX3_isReady_0 rfl (lv_at hl 0 rfl) ?_
  refine va_get (D := G) (ci := 5) (v := .ref (a 6)) (C := RX3) (T := TX3) (N := 19) hx hb hts hinX3 hown hK hP 0 rfl rfl 6 (by decide) fl26 (fun _ h9 => h9) rfl dX3_isReady_1 ?_
  refine lv_iload_n hx hb dX3_isReady_4 rfl (lv_at hl 1 rfl) ?_
  refine y_iald hx hb hK hP 6 0 rfl rfl (j := i) (by omega) hsz1 dX3_isReady_5 ?_
  refine lv_iload_n hx hb dX3_isReady_6 rfl (lv_at hl 2 rfl) ?_
  refine lv_icmp_ne (tgt := 38) hx hb dX3_isReady_7 (by decide) (fun c7 => ?_) (fun c7 => ?_)
  · skip
    refine lv_iconst (v := 0) hx hb dX3_isReady_38 (by decide) ?_
    exact W.zret (v := 0) hx hb hr (by decide) (fun τ hτ _ => ⟨_, rfl, (by first | exact (b2_f (fun h9 => absurd h9.1 (by assumption))).symm | exact (b2_f (fun h9 => absurd h9.2.1 (by assumption))).symm | exact (b2_f (fun h9 => absurd h9.2.2 (Int32.not_le.mpr (by assumption)))).symm | exact (b2_t ⟨by assumption, by assumption, Int32.not_lt.mp (by assumption)⟩).symm), hτ⟩) (fun _ h9 => nomatch h9) dX3_isReady_39
  · skip
    refine lv_aload_n hx hb dX3_isReady_10 rfl (lv_at hl 0 rfl) ?_
    refine va_get (D := G) (ci := 5) (v := .ref (a 13)) (C := RX3) (T := TX3) (N := 19) hx hb hts hinX3 hown hK hP 0 rfl rfl 13 (by decide) fl48 (fun _ h9 => h9) rfl dX3_isReady_11 ?_
    refine lv_iload_n hx hb dX3_isReady_14 rfl (lv_at hl 1 rfl) ?_
    refine y_cald hx hb hK hP 13 2 rfl rfl (j := i) (by omega) hsz1 dX3_isReady_15 ?_
    refine lv_bipush (v := 119) hx hb dX3_isReady_16 (by decide) ?_
    refine lv_icmp_ne (tgt := 38) hx hb dX3_isReady_18 (by decide) (fun c18 => ?_) (fun c18 => ?_)
    · skip
      refine lv_iconst (v := 0) hx hb dX3_isReady_38 (by decide) ?_
      exact W.zret (v := 0) hx hb hr (by decide) (fun τ hτ _ => ⟨_, rfl, (by first | exact (b2_f (fun h9 => absurd h9.1 (by assumption))).symm | exact (b2_f (fun h9 => absurd h9.2.1 (by assumption))).symm | exact (b2_f (fun h9 => absurd h9.2.2 (Int32.not_le.mpr (by assumption)))).symm | exact (b2_t ⟨by assumption, by assumption, Int32.not_lt.mp (by assumption)⟩).symm), hτ⟩) (fun _ h9 => nomatch h9) dX3_isReady_39
    · skip
      refine lv_aload_n hx hb dX3_isReady_21 rfl (lv_at hl 0 rfl) ?_
      refine va_get (D := G) (ci := 5) (v := .ref (a 11)) (C := RX3) (T := TX3) (N := 19) hx hb hts hinX3 hown hK hP 0 rfl rfl 11 (by decide) fl42 (fun _ h9 => h9) rfl dX3_isReady_22 ?_
      refine lv_iload_n hx hb dX3_isReady_25 rfl (lv_at hl 1 rfl) ?_
      refine y_iald hx hb hK hP 11 0 rfl rfl (j := i) (by omega) hsz1 dX3_isReady_26 ?_
      refine lv_aload_n hx hb dX3_isReady_27 rfl (lv_at hl 0 rfl) ?_
      refine va_get (D := G) (ci := 5) (v := .int (nI d)) (C := RX3) (T := TX3) (N := 19) hx hb hts hinX3 hown hK hP 0 rfl rfl 17 (by decide) fl71 (fun _ h9 => h9) rfl dX3_isReady_28 ?_
      refine lv_icmp_gt (tgt := 38) hx hb dX3_isReady_31 (by decide) (fun c31 => ?_) (fun c31 => ?_)
      · skip
        refine lv_iconst (v := 0) hx hb dX3_isReady_38 (by decide) ?_
        exact W.zret (v := 0) hx hb hr (by decide) (fun τ hτ _ => ⟨_, rfl, (by first | exact (b2_f (fun h9 => absurd h9.1 (by assumption))).symm | exact (b2_f (fun h9 => absurd h9.2.1 (by assumption))).symm | exact (b2_f (fun h9 => absurd h9.2.2 (Int32.not_le.mpr (by assumption)))).symm | exact (b2_t ⟨by assumption, by assumption, Int32.not_lt.mp (by assumption)⟩).symm), hτ⟩) (fun _ h9 => nomatch h9) dX3_isReady_39
      · skip
        refine lv_iconst (v := 1) hx hb dX3_isReady_34 (by decide) ?_
        refine lv_goto (tgt := 39) hx hb dX3_isReady_35 (by decide) ?_
        exact W.zret (v := 1) hx hb hr (by decide) (fun τ hτ _ => ⟨_, rfl, (by first | exact (b2_f (fun h9 => absurd h9.1 (by assumption))).symm | exact (b2_f (fun h9 => absurd h9.2.1 (by assumption))).symm | exact (b2_f (fun h9 => absurd h9.2.2 (Int32.not_le.mpr (by assumption)))).symm | exact (b2_t ⟨by assumption, by assumption, Int32.not_lt.mp (by assumption)⟩).symm), hτ⟩) (fun _ h9 => nomatch h9) dX3_isReady_39

set_option maxHeartbeats 4000000 in
set_option maxRecDepth 100000 in
theorem c_X3_readyIn (l : Launch) (G : va_G) (k : Nat → ClassId) (a : Nat → Nat) (C : Nat → Nat → Int32) (n0 : Nat) (M : Nat → Nat → Int32) (n1 : Nat) (d : Nat) (th : Int32) (q : Int32) (hn1 : n1 ≤ 80) : Met l yX3_readyIn wsX3_readyIn ({ frames := 1, cells := 0, slots := 0, locals := 22 }) (va_Pc [.ref (a 0), .int q] (yB G (yT k) (W3 k a C n0 M n1 d th))) (vp_Si (fun r => r = nI (cnt (fun z => decide (rdy M q (nI d) z)) n1 0 0))) 0 0 (fun _ => False) := by
  refine Met.ofW (cc := cX3_readyIn) (maxL := 4) (ret := (some .int)) (by decide) rfl ?_
  intro p e s m args below meth c_ s₁ B hml hv
  obtain ⟨rfl, hP, hK⟩ := hv
  have hx := B.exec
  have hb := B.bytes
  have hr := B.returns
  have hts := atoms_spec (ws := wsX3_readyIn) B.pre
  have hown : s.vm.findClass RX3 = some m.cls := findClass_of_methodNamed B.named
  have hlocks := B.notSynchronized
  have hsz0 : (8 : Nat) < 2 ^ 31 := by decide
  have hsz1 : (80 : Nat) < 2 ^ 31 := by decide
  have hinX3 : ∀ w ∈ u_ws RX3 TX3 19, w ∈ wsX3_readyIn := by decide +kernel
  have fl68 := hts (.fieldLink RX3 68 "DunningDeskModel" "messages" "I") (by decide +kernel)
  have hl := lv_entry [.ref (a 0), .int q] (n := 4) (Nat.le_of_ble_eq_true rfl)
  rw [lg_entry_eq]
  generalize (lg_sl [.ref (a 0), .int q] ++ List.replicate (4 - (lg_sl [.ref (a 0), .int q]).length) Slot.unset).toArray = ls at hl ⊢
  have hl : lv_has ls 4 [(0, .ref (a 0)), (1, .int q)] := hl
  refine lv_iconst (v := 0) hx hb dX3_readyIn_0 (by decide) ?_
  refine lv_istore_n (lv' := [(2, .int 0), (0, .ref (a 0)), (1, .int q)]) hx hb dX3_readyIn_1 rfl hl (by decide) rfl (fun ls hl => ?_)
  refine lv_iconst (v := 0) hx hb dX3_readyIn_2 (by decide) ?_
  refine lv_istore_n (lv' := [(3, .int 0), (2, .int 0), (0, .ref (a 0)), (1, .int q)]) hx hb dX3_readyIn_3 rfl hl (by decide) rfl (fun ls hl => ?_)
  have hl : lv_has ls 4 [(3, .int (nI 0)), (2, .int (nI 0)), (0, .ref (a 0)), (1, .int q)] := lv_sub hl [0, 1, 2, 3] rfl
  refine y_loop (σ := Nat × Nat) (fun r xσ H locs ls => xσ.1 + r = n1 ∧ xσ.2 ≤ xσ.1 ∧ cnt (fun z => decide (rdy M q (nI d) z)) n1 0 0 = cnt (fun z => decide (rdy M q (nI d) z)) r xσ.1 xσ.2 ∧ H = s.heap ∧ locs = [] ∧ lv_has ls 4 [(3, .int (nI xσ.1)), (2, .int (nI xσ.2)), (0, .ref (a 0)), (1, .int q)]) (fun r xσ H locs ls hI ih4 => ?_) n1 (0, 0) _ _ _ ⟨(by omega), (by omega), rfl, rfl, rfl, hl⟩
  obtain ⟨i, o⟩ := xσ
  obtain ⟨hi, ho, hv, rfl, rfl, hl⟩ := hI
  dsimp only at hi ho hv hl
  refine lv_iload_n hx hb dX3_readyIn_4 rfl (lv_at hl 0 rfl) ?_
  refine lv_aload_n hx hb dX3_readyIn_5 rfl (lv_at hl 2 rfl) ?_
  refine va_get (D := G) (ci := 5) (v := .int (nI n1)) (C := RX3) (T := TX3) (N := 19) hx hb hts hinX3 hown hK hP 0 rfl rfl 16 (by decide) fl68 (fun _ h9 => h9) rfl dX3_readyIn_6 ?_
  refine lv_icmp_ge (tgt := 35) hx hb dX3_readyIn_9 (by decide) (fun c9 => ?_) (fun c9 => ?_)
  · replace c9 : n1 ≤ i := (nI_leI (a := n1) (b := i) (by omega) (by omega)).mp c9
    refine lv_iload_n hx hb dX3_readyIn_35 rfl (lv_at hl 1 rfl) ?_
    exact W.iret (v := (nI o)) hx hb hr (fun τ hτ _ => ⟨_, rfl, (by (obtain rfl : r = 0 := by omega); rw [hv]; rfl), hτ⟩) (fun _ h9 => nomatch h9) dX3_readyIn_36
  · replace c9 : ¬ n1 ≤ i := fun h9 => c9 ((nI_leI (a := n1) (b := i) (by omega) (by omega)).mpr h9)
    obtain ⟨r', rfl⟩ : ∃ r', r = r' + 1 := ⟨r - 1, by omega⟩
    refine lv_iload_n hx hb dX3_readyIn_12 rfl (lv_at hl 1 rfl) ?_
    refine lv_aload_n hx hb dX3_readyIn_13 rfl (lv_at hl 2 rfl) ?_
    refine lv_iload_n hx hb dX3_readyIn_14 rfl (lv_at hl 0 rfl) ?_
    refine lv_iload_n hx hb dX3_readyIn_15 rfl (lv_at hl 3 rfl) ?_
    refine y_roV (As := [.int (nI i), .int q]) (rest := [.int (nI o)]) ⟨hx, hb, hml, hown, hts⟩ (c_X3_isReady l G k a C n0 M n1 d th i q (by omega)) (cwV 2 hts gX3_readyIn_X3_isReady rfl rfl rfl (by decide +kernel) ⟨Nat.le_of_ble_eq_true rfl, Nat.le_of_ble_eq_true rfl⟩) hK hP (va_recv hK hP (ci := 5) (q0 := 0) rfl rfl) rfl hl.1 rfl (Nat.le_of_ble_eq_true rfl) dX3_readyIn_16 ⟨Nat.le_of_ble_eq_true rfl, Nat.le_of_ble_eq_true rfl⟩ (fun r hr9 => ?_)
    subst hr9
    refine lv_if_eq (tgt := 26) hx hb dX3_readyIn_19 (by decide) (fun c19 => ?_) (fun c19 => ?_)
    · replace c19 : ¬ (rdy M q (nI d) i) := b2_of0 c19
      refine lv_iconst (v := 0) hx hb dX3_readyIn_26 (by decide) ?_
      refine lv_iadd hx hb dX3_readyIn_27 ?_
      refine y_top (y_add0 _) ?_
      refine lv_istore_n (lv' := [(2, .int (nI o)), (3, .int (nI i)), (0, .ref (a 0)), (1, .int q)]) hx hb dX3_readyIn_28 rfl hl (by decide) rfl (fun ls hl => ?_)
      refine lv_iinc (v := nI (i + 1)) (lv' := [(3, .int (nI (i + 1))), (2, .int (nI o)), (0, .ref (a 0)), (1, .int q)]) hx hb dX3_readyIn_29 hl (k := 1) rfl (nI_1 i) (by decide) rfl (fun ls hl => ?_)
      refine lv_goto (tgt := 4) hx hb dX3_readyIn_32 (by decide) ?_
      exact ih4 r' (i + 1, o) _ _ _ (by omega) ⟨(by omega), (by omega), (by rw [hv]; first | exact cnt_t (decide_eq_true c19) | exact cnt_f (decide_eq_false c19)), rfl, rfl, lv_sub hl [0, 1, 2, 3] rfl⟩
    · replace c19 : rdy M q (nI d) i := b2_of1 c19
      refine lv_iconst (v := 1) hx hb dX3_readyIn_22 (by decide) ?_
      refine lv_goto (tgt := 27) hx hb dX3_readyIn_23 (by decide) ?_
      refine lv_iadd hx hb dX3_readyIn_27 ?_
      refine y_top (nI_1 o) ?_
      refine lv_istore_n (lv' := [(2, .int (nI (o + 1))), (3, .int (nI i)), (0, .ref (a 0)), (1, .int q)]) hx hb dX3_readyIn_28 rfl hl (by decide) rfl (fun ls hl => ?_)
      refine lv_iinc (v := nI (i + 1)) (lv' := [(3, .int (nI (i + 1))), (2, .int (nI (o + 1))), (0, .ref (a 0)), (1, .int q)]) hx hb dX3_readyIn_29 hl (k := 1) rfl (nI_1 i) (by decide) rfl (fun ls hl => ?_)
      refine lv_goto (tgt := 4) hx hb dX3_readyIn_32 (by decide) ?_
      exact ih4 r' (i + 1, o + 1) _ _ _ (by omega) ⟨(by omega), (by omega), (by rw [hv]; first | exact cnt_t (decide_eq_true c19) | exact cnt_f (decide_eq_false c19)), rfl, rfl, lv_sub hl [0, 1, 2, 3] rfl⟩

set_option maxHeartbeats 4000000 in
set_option maxRecDepth 100000 in
theorem c_X3_taken (l : Launch) (G : va_G) (k : Nat → ClassId) (a : Nat → Nat) (C : Nat → Nat → Int32) (n0 : Nat) (M : Nat → Nat → Int32) (n1 : Nat) (d : Nat) (th : Int32) (u : Int32) (hn1 : n1 ≤ 80) : Met l yX3_taken wsX3_taken ({ frames := 0, cells := 0, slots := 0, locals := 0 }) (va_Pc [.ref (a 0), .int u] (yB G (yT k) (W3 k a C n0 M n1 d th))) (vp_Si (fun r => r = nI (cnt (fun z => decide (tkn M u z)) n1 0 0))) 0 0 (fun _ => False) := by
  refine Met.ofW (cc := cX3_taken) (maxL := 4) (ret := (some .int)) (by decide) rfl ?_
  intro p e s m args below meth c_ s₁ B hml hv
  obtain ⟨rfl, hP, hK⟩ := hv
  have hx := B.exec
  have hb := B.bytes
  have hr := B.returns
  have hts := atoms_spec (ws := wsX3_taken) B.pre
  have hown : s.vm.findClass RX3 = some m.cls := findClass_of_methodNamed B.named
  have hlocks := B.notSynchronized
  have hsz0 : (8 : Nat) < 2 ^ 31 := by decide
  have hsz1 : (80 : Nat) < 2 ^ 31 := by decide
  have hinX3 : ∀ w ∈ u_ws RX3 TX3 19, w ∈ wsX3_taken := by decide +kernel
  have fl68 := hts (.fieldLink RX3 68 "DunningDeskModel" "messages" "I") (by decide +kernel)
  have fl48 := hts (.fieldLink RX3 48 "DunningDeskModel" "states" "[C") (by decide +kernel)
  have fl51 := hts (.fieldLink RX3 51 "DunningDeskModel" "clerks" "[I") (by decide +kernel)
  have hl := lv_entry [.ref (a 0), .int u] (n := 4) (Nat.le_of_ble_eq_true rfl)
  rw [lg_entry_eq]
  generalize (lg_sl [.ref (a 0), .int u] ++ List.replicate (4 - (lg_sl [.ref (a 0), .int u]).length) Slot.unset).toArray = ls at hl ⊢
  have hl : lv_has ls 4 [(0, .ref (a 0)), (1, .int u)] := hl
  refine lv_iconst (v := 0) hx hb dX3_taken_0 (by decide) ?_
  refine lv_istore_n (lv' := [(2, .int 0), (0, .ref (a 0)), (1, .int u)]) hx hb dX3_taken_1 rfl hl (by decide) rfl (fun ls hl => ?_)
  refine lv_iconst (v := 0) hx hb dX3_taken_2 (by decide) ?_
  refine lv_istore_n (lv' := [(3, .int 0), (2, .int 0), (0, .ref (a 0)), (1, .int u)]) hx hb dX3_taken_3 rfl hl (by decide) rfl (fun ls hl => ?_)
  have hl : lv_has ls 4 [(3, .int (nI 0)), (2, .int (nI 0)), (0, .ref (a 0)), (1, .int u)] := lv_sub hl [0, 1, 2, 3] rfl
  refine y_loop (σ := Nat × Nat) (fun r xσ H locs ls => xσ.1 + r = n1 ∧ xσ.2 ≤ xσ.1 ∧ cnt (fun z => decide (tkn M u z)) n1 0 0 = cnt (fun z => decide (tkn M u z)) r xσ.1 xσ.2 ∧ H = s.heap ∧ locs = [] ∧ lv_has ls 4 [(3, .int (nI xσ.1)), (2, .int (nI xσ.2)), (0, .ref (a 0)), (1, .int u)]) (fun r xσ H locs ls hI ih4 => ?_) n1 (0, 0) _ _ _ ⟨(by omega), (by omega), rfl, rfl, rfl, hl⟩
  obtain ⟨i, o⟩ := xσ
  obtain ⟨hi, ho, hv, rfl, rfl, hl⟩ := hI
  dsimp only at hi ho hv hl
  refine lv_iload_n hx hb dX3_taken_4 rfl (lv_at hl 0 rfl) ?_
  refine lv_aload_n hx hb dX3_taken_5 rfl (lv_at hl 2 rfl) ?_
  refine va_get (D := G) (ci := 5) (v := .int (nI n1)) (C := RX3) (T := TX3) (N := 19) hx hb hts hinX3 hown hK hP 0 rfl rfl 16 (by decide) fl68 (fun _ h9 => h9) rfl dX3_taken_6 ?_
  refine lv_icmp_ge (tgt := 47) hx hb dX3_taken_9 (by decide) (fun c9 => ?_) (fun c9 => ?_)
  · replace c9 : n1 ≤ i := (nI_leI (a := n1) (b := i) (by omega) (by omega)).mp c9
    refine lv_iload_n hx hb dX3_taken_47 rfl (lv_at hl 1 rfl) ?_
    exact W.iret (v := (nI o)) hx hb hr (fun τ hτ _ => ⟨_, rfl, (by (obtain rfl : r = 0 := by omega); rw [hv]; rfl), hτ⟩) (fun _ h9 => nomatch h9) dX3_taken_48
  · replace c9 : ¬ n1 ≤ i := fun h9 => c9 ((nI_leI (a := n1) (b := i) (by omega) (by omega)).mpr h9)
    obtain ⟨r', rfl⟩ : ∃ r', r = r' + 1 := ⟨r - 1, by omega⟩
    refine lv_iload_n hx hb dX3_taken_12 rfl (lv_at hl 1 rfl) ?_
    refine lv_aload_n hx hb dX3_taken_13 rfl (lv_at hl 2 rfl) ?_
    refine va_get (D := G) (ci := 5) (v := .ref (a 13)) (C := RX3) (T := TX3) (N := 19) hx hb hts hinX3 hown hK hP 0 rfl rfl 13 (by decide) fl48 (fun _ h9 => h9) rfl dX3_taken_14 ?_
    refine lv_iload_n hx hb dX3_taken_17 rfl (lv_at hl 0 rfl) ?_
    refine y_cald hx hb hK hP 13 2 rfl rfl (j := i) (by omega) hsz1 dX3_taken_18 ?_
    refine lv_bipush (v := 116) hx hb dX3_taken_19 (by decide) ?_
    refine lv_icmp_ne (tgt := 38) hx hb dX3_taken_21 (by decide) (fun c21 => ?_) (fun c21 => ?_)
    · skip
      refine lv_iconst (v := 0) hx hb dX3_taken_38 (by decide) ?_
      refine lv_iadd hx hb dX3_taken_39 ?_
      refine y_top (y_add0 _) ?_
      refine lv_istore_n (lv' := [(2, .int (nI o)), (3, .int (nI i)), (0, .ref (a 0)), (1, .int u)]) hx hb dX3_taken_40 rfl hl (by decide) rfl (fun ls hl => ?_)
      refine lv_iinc (v := nI (i + 1)) (lv' := [(3, .int (nI (i + 1))), (2, .int (nI o)), (0, .ref (a 0)), (1, .int u)]) hx hb dX3_taken_41 hl (k := 1) rfl (nI_1 i) (by decide) rfl (fun ls hl => ?_)
      refine lv_goto (tgt := 4) hx hb dX3_taken_44 (by decide) ?_
      exact ih4 r' (i + 1, o) _ _ _ (by omega) ⟨(by omega), (by omega), (by rw [hv]; first | exact cnt_t (decide_eq_true ⟨c21, c31⟩) | exact cnt_f (decide_eq_false (fun h9 => c21 h9.1)) | exact cnt_f (decide_eq_false (fun h9 => c31 h9.2))), rfl, rfl, lv_sub hl [0, 1, 2, 3] rfl⟩
    · skip
      refine lv_aload_n hx hb dX3_taken_24 rfl (lv_at hl 2 rfl) ?_
      refine va_get (D := G) (ci := 5) (v := .ref (a 14)) (C := RX3) (T := TX3) (N := 19) hx hb hts hinX3 hown hK hP 0 rfl rfl 14 (by decide) fl51 (fun _ h9 => h9) rfl dX3_taken_25 ?_
      refine lv_iload_n hx hb dX3_taken_28 rfl (lv_at hl 0 rfl) ?_
      refine y_iald hx hb hK hP 14 0 rfl rfl (j := i) (by omega) hsz1 dX3_taken_29 ?_
      refine lv_iload_n hx hb dX3_taken_30 rfl (lv_at hl 3 rfl) ?_
      refine lv_icmp_ne (tgt := 38) hx hb dX3_taken_31 (by decide) (fun c31 => ?_) (fun c31 => ?_)
      · skip
        refine lv_iconst (v := 0) hx hb dX3_taken_38 (by decide) ?_
        refine lv_iadd hx hb dX3_taken_39 ?_
        refine y_top (y_add0 _) ?_
        refine lv_istore_n (lv' := [(2, .int (nI o)), (3, .int (nI i)), (0, .ref (a 0)), (1, .int u)]) hx hb dX3_taken_40 rfl hl (by decide) rfl (fun ls hl => ?_)
        refine lv_iinc (v := nI (i + 1)) (lv' := [(3, .int (nI (i + 1))), (2, .int (nI o)), (0, .ref (a 0)), (1, .int u)]) hx hb dX3_taken_41 hl (k := 1) rfl (nI_1 i) (by decide) rfl (fun ls hl => ?_)
        refine lv_goto (tgt := 4) hx hb dX3_taken_44 (by decide) ?_
        exact ih4 r' (i + 1, o) _ _ _ (by omega) ⟨(by omega), (by omega), (by rw [hv]; first | exact cnt_t (decide_eq_true ⟨c21, c31⟩) | exact cnt_f (decide_eq_false (fun h9 => c21 h9.1)) | exact cnt_f (decide_eq_false (fun h9 => c31 h9.2))), rfl, rfl, lv_sub hl [0, 1, 2, 3] rfl⟩
      · skip
        refine lv_iconst (v := 1) hx hb dX3_taken_34 (by decide) ?_
        refine lv_goto (tgt := 39) hx hb dX3_taken_35 (by decide) ?_
        refine lv_iadd hx hb dX3_taken_39 ?_
        refine y_top (nI_1 o) ?_
        refine lv_istore_n (lv' := [(2, .int (nI (o + 1))), (3, .int (nI i)), (0, .ref (a 0)), (1, .int u)]) hx hb dX3_taken_40 rfl hl (by decide) rfl (fun ls hl => ?_)
        refine lv_iinc (v := nI (i + 1)) (lv' := [(3, .int (nI (i + 1))), (2, .int (nI (o + 1))), (0, .ref (a 0)), (1, .int u)]) hx hb dX3_taken_41 hl (k := 1) rfl (nI_1 i) (by decide) rfl (fun ls hl => ?_)
        refine lv_goto (tgt := 4) hx hb dX3_taken_44 (by decide) ?_
        exact ih4 r' (i + 1, o + 1) _ _ _ (by omega) ⟨(by omega), (by omega), (by rw [hv]; first | exact cnt_t (decide_eq_true ⟨c21, c31⟩) | exact cnt_f (decide_eq_false (fun h9 => c21 h9.1)) | exact cnt_f (decide_eq_false (fun h9 => c31 h9.2))), rfl, rfl, lv_sub hl [0, 1, 2, 3] rfl⟩

set_option maxHeartbeats 4000000 in
set_option maxRecDepth 100000 in
theorem c_X3_in_ (l : Launch) (G : va_G) (k : Nat → ClassId) (a : Nat → Nat) (C : Nat → Nat → Int32) (n0 : Nat) (M : Nat → Nat → Int32) (n1 : Nat) (d : Nat) (th : Int32) (u : Int32) (hn1 : n1 ≤ 80) : Met l yX3_in_ wsX3_in_ ({ frames := 0, cells := 0, slots := 0, locals := 0 }) (va_Pc [.ref (a 0), .int u] (yB G (yT k) (W3 k a C n0 M n1 d th))) (vp_Si (fun r => r = nI (cnt (fun z => decide (M 5 z = u)) n1 0 0))) 0 0 (fun _ => False) := by
  refine Met.ofW (cc := cX3_in_) (maxL := 4) (ret := (some .int)) (by decide) rfl ?_
  intro p e s m args below meth c_ s₁ B hml hv
  obtain ⟨rfl, hP, hK⟩ := hv
  have hx := B.exec
  have hb := B.bytes
  have hr := B.returns
  have hts := atoms_spec (ws := wsX3_in_) B.pre
  have hown : s.vm.findClass RX3 = some m.cls := findClass_of_methodNamed B.named
  have hlocks := B.notSynchronized
  have hsz0 : (8 : Nat) < 2 ^ 31 := by decide
  have hsz1 : (80 : Nat) < 2 ^ 31 := by decide
  have hinX3 : ∀ w ∈ u_ws RX3 TX3 19, w ∈ wsX3_in_ := by decide +kernel
  have fl68 := hts (.fieldLink RX3 68 "DunningDeskModel" "messages" "I") (by decide +kernel)
  have fl48 := hts (.fieldLink RX3 48 "DunningDeskModel" "states" "[C") (by decide +kernel)
  have hl := lv_entry [.ref (a 0), .int u] (n := 4) (Nat.le_of_ble_eq_true rfl)
  rw [lg_entry_eq]
  generalize (lg_sl [.ref (a 0), .int u] ++ List.replicate (4 - (lg_sl [.ref (a 0), .int u]).length) Slot.unset).toArray = ls at hl ⊢
  have hl : lv_has ls 4 [(0, .ref (a 0)), (1, .int u)] := hl
  refine lv_iconst (v := 0) hx hb dX3_in__0 (by decide) ?_
  refine lv_istore_n (lv' := [(2, .int 0), (0, .ref (a 0)), (1, .int u)]) hx hb dX3_in__1 rfl hl (by decide) rfl (fun ls hl => ?_)
  refine lv_iconst (v := 0) hx hb dX3_in__2 (by decide) ?_
  refine lv_istore_n (lv' := [(3, .int 0), (2, .int 0), (0, .ref (a 0)), (1, .int u)]) hx hb dX3_in__3 rfl hl (by decide) rfl (fun ls hl => ?_)
  have hl : lv_has ls 4 [(3, .int (nI 0)), (2, .int (nI 0)), (0, .ref (a 0)), (1, .int u)] := lv_sub hl [0, 1, 2, 3] rfl
  refine y_loop (σ := Nat × Nat) (fun r xσ H locs ls => xσ.1 + r = n1 ∧ xσ.2 ≤ xσ.1 ∧ cnt (fun z => decide (M 5 z = u)) n1 0 0 = cnt (fun z => decide (M 5 z = u)) r xσ.1 xσ.2 ∧ H = s.heap ∧ locs = [] ∧ lv_has ls 4 [(3, .int (nI xσ.1)), (2, .int (nI xσ.2)), (0, .ref (a 0)), (1, .int u)]) (fun r xσ H locs ls hI ih4 => ?_) n1 (0, 0) _ _ _ ⟨(by omega), (by omega), rfl, rfl, rfl, hl⟩
  obtain ⟨i, o⟩ := xσ
  obtain ⟨hi, ho, hv, rfl, rfl, hl⟩ := hI
  dsimp only at hi ho hv hl
  refine lv_iload_n hx hb dX3_in__4 rfl (lv_at hl 0 rfl) ?_
  refine lv_aload_n hx hb dX3_in__5 rfl (lv_at hl 2 rfl) ?_
  refine va_get (D := G) (ci := 5) (v := .int (nI n1)) (C := RX3) (T := TX3) (N := 19) hx hb hts hinX3 hown hK hP 0 rfl rfl 16 (by decide) fl68 (fun _ h9 => h9) rfl dX3_in__6 ?_
  refine lv_icmp_ge (tgt := 36) hx hb dX3_in__9 (by decide) (fun c9 => ?_) (fun c9 => ?_)
  · replace c9 : n1 ≤ i := (nI_leI (a := n1) (b := i) (by omega) (by omega)).mp c9
    refine lv_iload_n hx hb dX3_in__36 rfl (lv_at hl 1 rfl) ?_
    exact W.iret (v := (nI o)) hx hb hr (fun τ hτ _ => ⟨_, rfl, (by (obtain rfl : r = 0 := by omega); rw [hv]; rfl), hτ⟩) (fun _ h9 => nomatch h9) dX3_in__37
  · replace c9 : ¬ n1 ≤ i := fun h9 => c9 ((nI_leI (a := n1) (b := i) (by omega) (by omega)).mpr h9)
    obtain ⟨r', rfl⟩ : ∃ r', r = r' + 1 := ⟨r - 1, by omega⟩
    refine lv_iload_n hx hb dX3_in__12 rfl (lv_at hl 1 rfl) ?_
    refine lv_aload_n hx hb dX3_in__13 rfl (lv_at hl 2 rfl) ?_
    refine va_get (D := G) (ci := 5) (v := .ref (a 13)) (C := RX3) (T := TX3) (N := 19) hx hb hts hinX3 hown hK hP 0 rfl rfl 13 (by decide) fl48 (fun _ h9 => h9) rfl dX3_in__14 ?_
    refine lv_iload_n hx hb dX3_in__17 rfl (lv_at hl 0 rfl) ?_
    refine y_cald hx hb hK hP 13 2 rfl rfl (j := i) (by omega) hsz1 dX3_in__18 ?_
    refine lv_iload_n hx hb dX3_in__19 rfl (lv_at hl 3 rfl) ?_
    refine lv_icmp_ne (tgt := 27) hx hb dX3_in__20 (by decide) (fun c20 => ?_) (fun c20 => ?_)
    · skip
      refine lv_iconst (v := 0) hx hb dX3_in__27 (by decide) ?_
      refine lv_iadd hx hb dX3_in__28 ?_
      refine y_top (y_add0 _) ?_
      refine lv_istore_n (lv' := [(2, .int (nI o)), (3, .int (nI i)), (0, .ref (a 0)), (1, .int u)]) hx hb dX3_in__29 rfl hl (by decide) rfl (fun ls hl => ?_)
      refine lv_iinc (v := nI (i + 1)) (lv' := [(3, .int (nI (i + 1))), (2, .int (nI o)), (0, .ref (a 0)), (1, .int u)]) hx hb dX3_in__30 hl (k := 1) rfl (nI_1 i) (by decide) rfl (fun ls hl => ?_)
      refine lv_goto (tgt := 4) hx hb dX3_in__33 (by decide) ?_
      exact ih4 r' (i + 1, o) _ _ _ (by omega) ⟨(by omega), (by omega), (by rw [hv]; first | exact cnt_t (decide_eq_true c20) | exact cnt_f (decide_eq_false c20)), rfl, rfl, lv_sub hl [0, 1, 2, 3] rfl⟩
    · skip
      refine lv_iconst (v := 1) hx hb dX3_in__23 (by decide) ?_
      refine lv_goto (tgt := 28) hx hb dX3_in__24 (by decide) ?_
      refine lv_iadd hx hb dX3_in__28 ?_
      refine y_top (nI_1 o) ?_
      refine lv_istore_n (lv' := [(2, .int (nI (o + 1))), (3, .int (nI i)), (0, .ref (a 0)), (1, .int u)]) hx hb dX3_in__29 rfl hl (by decide) rfl (fun ls hl => ?_)
      refine lv_iinc (v := nI (i + 1)) (lv' := [(3, .int (nI (i + 1))), (2, .int (nI (o + 1))), (0, .ref (a 0)), (1, .int u)]) hx hb dX3_in__30 hl (k := 1) rfl (nI_1 i) (by decide) rfl (fun ls hl => ?_)
      refine lv_goto (tgt := 4) hx hb dX3_in__33 (by decide) ?_
      exact ih4 r' (i + 1, o + 1) _ _ _ (by omega) ⟨(by omega), (by omega), (by rw [hv]; first | exact cnt_t (decide_eq_true c20) | exact cnt_f (decide_eq_false c20)), rfl, rfl, lv_sub hl [0, 1, 2, 3] rfl⟩

set_option maxHeartbeats 4000000 in
set_option maxRecDepth 100000 in
theorem c_X3_place (l : Launch) (G : va_G) (k : Nat → ClassId) (a : Nat → Nat) (C : Nat → Nat → Int32) (n0 : Nat) (M : Nat → Nat → Int32) (n1 : Nat) (d : Nat) (th : Int32) (q pl : Int32) (hn1 : n1 ≤ 80) : Met l yX3_place wsX3_place ({ frames := 1, cells := 0, slots := 0, locals := 22 }) (va_Pc [.ref (a 0), .int q, .int pl] (yB G (yT k) (W3 k a C n0 M n1 d th))) (vp_Si (fun r => r = oI (plc M q (nI d) pl n1 n1 0))) 0 0 (fun _ => False) := by
  refine Met.ofW (cc := cX3_place) (maxL := 6) (ret := (some .int)) (by decide) rfl ?_
  intro p e s m args below meth c_ s₁ B hml hv
  obtain ⟨rfl, hP, hK⟩ := hv
  have hx := B.exec
  have hb := B.bytes
  have hr := B.returns
  have hts := atoms_spec (ws := wsX3_place) B.pre
  have hown : s.vm.findClass RX3 = some m.cls := findClass_of_methodNamed B.named
  have hlocks := B.notSynchronized
  have hsz0 : (8 : Nat) < 2 ^ 31 := by decide
  have hsz1 : (80 : Nat) < 2 ^ 31 := by decide
  have hinX3 : ∀ w ∈ u_ws RX3 TX3 19, w ∈ wsX3_place := by decide +kernel
  have fl68 := hts (.fieldLink RX3 68 "DunningDeskModel" "messages" "I") (by decide +kernel)
  have fl42 := hts (.fieldLink RX3 42 "DunningDeskModel" "readyOn" "[I") (by decide +kernel)
  have hl := lv_entry [.ref (a 0), .int q, .int pl] (n := 6) (Nat.le_of_ble_eq_true rfl)
  rw [lg_entry_eq]
  generalize (lg_sl [.ref (a 0), .int q, .int pl] ++ List.replicate (6 - (lg_sl [.ref (a 0), .int q, .int pl]).length) Slot.unset).toArray = ls at hl ⊢
  have hl : lv_has ls 6 [(0, .ref (a 0)), (1, .int q), (2, .int pl)] := hl
  refine lv_iconst (v := 0) hx hb dX3_place_0 (by decide) ?_
  refine lv_istore_n (lv' := [(3, .int 0), (0, .ref (a 0)), (1, .int q), (2, .int pl)]) hx hb dX3_place_1 rfl hl (by decide) rfl (fun ls hl => ?_)
  have hl : lv_has ls 6 [(3, .int (nI 0)), (0, .ref (a 0)), (1, .int q), (2, .int pl)] := lv_sub hl [0, 1, 2, 3] rfl
  refine y_loop (σ := Nat) (fun r xσ H locs ls => xσ + r = n1 ∧ plc M q (nI d) pl n1 n1 0 = plc M q (nI d) pl n1 r xσ ∧ H = s.heap ∧ locs = [] ∧ lv_has ls 6 [(3, .int (nI xσ)), (0, .ref (a 0)), (1, .int q), (2, .int pl)]) (fun r xσ H locs ls hI ih2 => ?_) n1 0 _ _ _ ⟨(by omega), rfl, rfl, rfl, hl⟩
  obtain ⟨i, rfl⟩ : ∃ z, z = xσ := ⟨xσ, rfl⟩
  obtain ⟨hi, hv, rfl, rfl, hl⟩ := hI
  refine lv_iload_n hx hb dX3_place_2 rfl (lv_at hl 0 rfl) ?_
  refine lv_aload_n hx hb dX3_place_3 rfl (lv_at hl 1 rfl) ?_
  refine va_get (D := G) (ci := 5) (v := .int (nI n1)) (C := RX3) (T := TX3) (N := 19) hx hb hts hinX3 hown hK hP 0 rfl rfl 16 (by decide) fl68 (fun _ h9 => h9) rfl dX3_place_4 ?_
  refine lv_icmp_ge (tgt := 121) hx hb dX3_place_7 (by decide) (fun c7 => ?_) (fun c7 => ?_)
  · replace c7 : n1 ≤ i := (nI_leI (a := n1) (b := i) (by omega) (by omega)).mp c7
    refine lv_iconst (v := (-1)) hx hb dX3_place_121 (by decide) ?_
    exact W.iret (v := (-1)) hx hb hr (fun τ hτ _ => ⟨_, rfl, (by (obtain rfl : r = 0 := by omega); rw [hv]; rfl), hτ⟩) (fun _ h9 => nomatch h9) dX3_place_122
  · replace c7 : ¬ n1 ≤ i := fun h9 => c7 ((nI_leI (a := n1) (b := i) (by omega) (by omega)).mpr h9)
    obtain ⟨r', rfl⟩ : ∃ r', r = r' + 1 := ⟨r - 1, by omega⟩
    refine lv_iconst (v := 0) hx hb dX3_place_10 (by decide) ?_
    refine lv_istore (lv' := [(4, .int 0), (3, .int (nI i)), (0, .ref (a 0)), (1, .int q), (2, .int pl)]) hx hb dX3_place_11 hl (by decide) rfl (fun ls hl => ?_)
    refine lv_iconst (v := 0) hx hb dX3_place_13 (by decide) ?_
    refine lv_istore (lv' := [(5, .int 0), (4, .int 0), (3, .int (nI i)), (0, .ref (a 0)), (1, .int q), (2, .int pl)]) hx hb dX3_place_14 hl (by decide) rfl (fun ls hl => ?_)
    have hl : lv_has ls 6 [(5, .int (nI 0)), (4, .int (nI 0)), (3, .int (nI i)), (0, .ref (a 0)), (1, .int q), (2, .int pl)] := lv_sub hl [0, 1, 2, 3, 4, 5] rfl
    refine y_loop (σ := Nat × Nat) (fun r xσ H locs ls => xσ.1 + r = n1 ∧ xσ.2 ≤ xσ.1 ∧ cnt (fun z => decide (rdy M q (nI d) z ∧ gb M z i)) n1 0 0 = cnt (fun z => decide (rdy M q (nI d) z ∧ gb M z i)) r xσ.1 xσ.2 ∧ H = s.heap ∧ locs = [] ∧ lv_has ls 6 [(5, .int (nI xσ.1)), (4, .int (nI xσ.2)), (3, .int (nI i)), (0, .ref (a 0)), (1, .int q), (2, .int pl)]) (fun r xσ H locs ls hI ih16 => ?_) n1 (0, 0) _ _ _ ⟨(by omega), (by omega), rfl, rfl, rfl, hl⟩
    obtain ⟨z9, o⟩ := xσ
    obtain ⟨hz, ho, hw, rfl, rfl, hl⟩ := hI
    dsimp only at hz ho hw hl
    refine lv_iload hx hb dX3_place_16 (lv_at hl 0 rfl) ?_
    refine lv_aload_n hx hb dX3_place_18 rfl (lv_at hl 3 rfl) ?_
    refine va_get (D := G) (ci := 5) (v := .int (nI n1)) (C := RX3) (T := TX3) (N := 19) hx hb hts hinX3 hown hK hP 0 rfl rfl 16 (by decide) fl68 (fun _ h9 => h9) rfl dX3_place_19 ?_
    refine lv_icmp_ge (tgt := 98) hx hb dX3_place_22 (by decide) (fun c22 => ?_) (fun c22 => ?_)
    · replace c22 : n1 ≤ z9 := (nI_leI (by omega) (by omega)).mp c22
      obtain rfl : r = 0 := by omega
      refine lv_aload_n hx hb dX3_place_98 rfl (lv_at hl 3 rfl) ?_
      refine lv_iload_n hx hb dX3_place_99 rfl (lv_at hl 2 rfl) ?_
      refine lv_iload_n hx hb dX3_place_100 rfl (lv_at hl 4 rfl) ?_
      refine y_roV (As := [.int (nI i), .int q]) (rest := []) ⟨hx, hb, hml, hown, hts⟩ (c_X3_isReady l G k a C n0 M n1 d th i q (by omega)) (cwV 2 hts gX3_place_X3_isReady rfl rfl rfl (by decide +kernel) ⟨Nat.le_of_ble_eq_true rfl, Nat.le_of_ble_eq_true rfl⟩) hK hP (va_recv hK hP (ci := 5) (q0 := 0) rfl rfl) rfl hl.1 rfl (Nat.le_of_ble_eq_true rfl) dX3_place_101 ⟨Nat.le_of_ble_eq_true rfl, Nat.le_of_ble_eq_true rfl⟩ (fun r hr9 => ?_)
      subst hr9
      refine lv_if_eq (tgt := 115) hx hb dX3_place_104 (by decide) (fun c104 => ?_) (fun c104 => ?_)
      · replace c104 : ¬ (rdy M q (nI d) i) := b2_of0 c104
        refine lv_iinc (v := nI (i + 1)) (lv' := [(3, .int (nI (i + 1))), (5, .int (nI z9)), (4, .int (nI o)), (0, .ref (a 0)), (1, .int q), (2, .int pl)]) hx hb dX3_place_115 hl (k := 2) rfl (nI_1 i) (by decide) rfl (fun ls hl => ?_)
        refine lv_goto (tgt := 2) hx hb dX3_place_118 (by decide) ?_
        exact ih2 r' (i + 1) _ _ _ (by omega) ⟨(by omega), (by rw [hv]; exact if_neg (fun h9 => by first | exact c104 h9.1 | exact c110 ((congrArg nI hw).symm.trans h9.2) | exact absurd h9.1 c31)), rfl, rfl, lv_sub hl [0, 3, 4, 5] rfl⟩
      · replace c104 : rdy M q (nI d) i := b2_of1 c104
        refine lv_iload hx hb dX3_place_107 (lv_at hl 1 rfl) ?_
        refine lv_iload_n hx hb dX3_place_109 rfl (lv_at hl 5 rfl) ?_
        refine lv_icmp_ne (tgt := 115) hx hb dX3_place_110 (by decide) (fun c110 => ?_) (fun c110 => ?_)
        · skip
          refine lv_iinc (v := nI (i + 1)) (lv' := [(3, .int (nI (i + 1))), (5, .int (nI z9)), (4, .int (nI o)), (0, .ref (a 0)), (1, .int q), (2, .int pl)]) hx hb dX3_place_115 hl (k := 2) rfl (nI_1 i) (by decide) rfl (fun ls hl => ?_)
          refine lv_goto (tgt := 2) hx hb dX3_place_118 (by decide) ?_
          exact ih2 r' (i + 1) _ _ _ (by omega) ⟨(by omega), (by rw [hv]; exact if_neg (fun h9 => by first | exact c104 h9.1 | exact c110 ((congrArg nI hw).symm.trans h9.2) | exact absurd h9.1 c31)), rfl, rfl, lv_sub hl [0, 3, 4, 5] rfl⟩
        · skip
          refine lv_iload_n hx hb dX3_place_113 rfl (lv_at hl 2 rfl) ?_
          exact W.iret (v := (nI i)) hx hb hr (fun τ hτ _ => ⟨_, rfl, (by first | exact absurd c104 c31 | (rw [hv]; show nI i = oI (if rdy M q (nI d) i ∧ nI (ahd M q (nI d) n1 i) = pl then _ else _); rw [if_pos ⟨c104, (congrArg nI hw).trans c110⟩]; rfl)), hτ⟩) (fun _ h9 => nomatch h9) dX3_place_114
    · replace c22 : ¬ n1 ≤ z9 := fun h9 => c22 ((nI_leI (by omega) (by omega)).mpr h9)
      obtain ⟨r9, rfl⟩ : ∃ r9, r = r9 + 1 := ⟨r - 1, by omega⟩
      refine lv_aload_n hx hb dX3_place_25 rfl (lv_at hl 3 rfl) ?_
      refine lv_iload_n hx hb dX3_place_26 rfl (lv_at hl 2 rfl) ?_
      refine lv_iload_n hx hb dX3_place_27 rfl (lv_at hl 4 rfl) ?_
      refine y_roV (As := [.int (nI i), .int q]) (rest := []) ⟨hx, hb, hml, hown, hts⟩ (c_X3_isReady l G k a C n0 M n1 d th i q (by omega)) (cwV 2 hts gX3_place_X3_isReady rfl rfl rfl (by decide +kernel) ⟨Nat.le_of_ble_eq_true rfl, Nat.le_of_ble_eq_true rfl⟩) hK hP (va_recv hK hP (ci := 5) (q0 := 0) rfl rfl) rfl hl.1 rfl (Nat.le_of_ble_eq_true rfl) dX3_place_28 ⟨Nat.le_of_ble_eq_true rfl, Nat.le_of_ble_eq_true rfl⟩ (fun r hr9 => ?_)
      subst hr9
      refine lv_if_eq (tgt := 98) hx hb dX3_place_31 (by decide) (fun c31 => ?_) (fun c31 => ?_)
      · replace c31 : ¬ (rdy M q (nI d) i) := b2_of0 c31
        refine lv_aload_n hx hb dX3_place_98 rfl (lv_at hl 3 rfl) ?_
        refine lv_iload_n hx hb dX3_place_99 rfl (lv_at hl 2 rfl) ?_
        refine lv_iload_n hx hb dX3_place_100 rfl (lv_at hl 4 rfl) ?_
        refine y_roV (As := [.int (nI i), .int q]) (rest := []) ⟨hx, hb, hml, hown, hts⟩ (c_X3_isReady l G k a C n0 M n1 d th i q (by omega)) (cwV 2 hts gX3_place_X3_isReady rfl rfl rfl (by decide +kernel) ⟨Nat.le_of_ble_eq_true rfl, Nat.le_of_ble_eq_true rfl⟩) hK hP (va_recv hK hP (ci := 5) (q0 := 0) rfl rfl) rfl hl.1 rfl (Nat.le_of_ble_eq_true rfl) dX3_place_101 ⟨Nat.le_of_ble_eq_true rfl, Nat.le_of_ble_eq_true rfl⟩ (fun r hr9 => ?_)
        subst hr9
        refine lv_if_eq (tgt := 115) hx hb dX3_place_104 (by decide) (fun c104 => ?_) (fun c104 => ?_)
        · replace c104 : ¬ (rdy M q (nI d) i) := b2_of0 c104
          refine lv_iinc (v := nI (i + 1)) (lv' := [(3, .int (nI (i + 1))), (5, .int (nI z9)), (4, .int (nI o)), (0, .ref (a 0)), (1, .int q), (2, .int pl)]) hx hb dX3_place_115 hl (k := 2) rfl (nI_1 i) (by decide) rfl (fun ls hl => ?_)
          refine lv_goto (tgt := 2) hx hb dX3_place_118 (by decide) ?_
          exact ih2 r' (i + 1) _ _ _ (by omega) ⟨(by omega), (by rw [hv]; exact if_neg (fun h9 => by first | exact c104 h9.1 | exact c110 ((congrArg nI hw).symm.trans h9.2) | exact absurd h9.1 c31)), rfl, rfl, lv_sub hl [0, 3, 4, 5] rfl⟩
        · replace c104 : rdy M q (nI d) i := b2_of1 c104
          refine lv_iload hx hb dX3_place_107 (lv_at hl 1 rfl) ?_
          refine lv_iload_n hx hb dX3_place_109 rfl (lv_at hl 5 rfl) ?_
          refine lv_icmp_ne (tgt := 115) hx hb dX3_place_110 (by decide) (fun c110 => ?_) (fun c110 => ?_)
          · skip
            refine lv_iinc (v := nI (i + 1)) (lv' := [(3, .int (nI (i + 1))), (5, .int (nI z9)), (4, .int (nI o)), (0, .ref (a 0)), (1, .int q), (2, .int pl)]) hx hb dX3_place_115 hl (k := 2) rfl (nI_1 i) (by decide) rfl (fun ls hl => ?_)
            refine lv_goto (tgt := 2) hx hb dX3_place_118 (by decide) ?_
            exact ih2 r' (i + 1) _ _ _ (by omega) ⟨(by omega), (by rw [hv]; exact if_neg (fun h9 => by first | exact c104 h9.1 | exact c110 ((congrArg nI hw).symm.trans h9.2) | exact absurd h9.1 c31)), rfl, rfl, lv_sub hl [0, 3, 4, 5] rfl⟩
          · skip
            refine lv_iload_n hx hb dX3_place_113 rfl (lv_at hl 2 rfl) ?_
            exact W.iret (v := (nI i)) hx hb hr (fun τ hτ _ => ⟨_, rfl, (by first | exact absurd c104 c31 | (rw [hv]; show nI i = oI (if rdy M q (nI d) i ∧ nI (ahd M q (nI d) n1 i) = pl then _ else _); rw [if_pos ⟨c104, (congrArg nI hw).trans c110⟩]; rfl)), hτ⟩) (fun _ h9 => nomatch h9) dX3_place_114
      · replace c31 : rdy M q (nI d) i := b2_of1 c31
        refine lv_iload hx hb dX3_place_34 (lv_at hl 1 rfl) ?_
        refine lv_aload_n hx hb dX3_place_36 rfl (lv_at hl 3 rfl) ?_
        refine lv_iload hx hb dX3_place_37 (lv_at hl 0 rfl) ?_
        refine lv_iload_n hx hb dX3_place_39 rfl (lv_at hl 4 rfl) ?_
        refine y_roV (As := [.int (nI z9), .int q]) (rest := [.int (nI o)]) ⟨hx, hb, hml, hown, hts⟩ (c_X3_isReady l G k a C n0 M n1 d th z9 q (by omega)) (cwV 2 hts gX3_place_X3_isReady rfl rfl rfl (by decide +kernel) ⟨Nat.le_of_ble_eq_true rfl, Nat.le_of_ble_eq_true rfl⟩) hK hP (va_recv hK hP (ci := 5) (q0 := 0) rfl rfl) rfl hl.1 rfl (Nat.le_of_ble_eq_true rfl) dX3_place_40 ⟨Nat.le_of_ble_eq_true rfl, Nat.le_of_ble_eq_true rfl⟩ (fun r hr9 => ?_)
        subst hr9
        refine lv_if_eq (tgt := 88) hx hb dX3_place_43 (by decide) (fun c43 => ?_) (fun c43 => ?_)
        · replace c43 : ¬ (rdy M q (nI d) z9) := b2_of0 c43
          refine lv_iconst (v := 0) hx hb dX3_place_88 (by decide) ?_
          refine lv_iadd hx hb dX3_place_89 ?_
          refine y_top (y_add0 _) ?_
          refine lv_istore (lv' := [(4, .int (nI o)), (5, .int (nI z9)), (3, .int (nI i)), (0, .ref (a 0)), (1, .int q), (2, .int pl)]) hx hb dX3_place_90 hl (by decide) rfl (fun ls hl => ?_)
          refine lv_iinc (v := nI (z9 + 1)) (lv' := [(5, .int (nI (z9 + 1))), (4, .int (nI o)), (3, .int (nI i)), (0, .ref (a 0)), (1, .int q), (2, .int pl)]) hx hb dX3_place_92 hl (k := 1) rfl (nI_1 z9) (by decide) rfl (fun ls hl => ?_)
          refine lv_goto (tgt := 16) hx hb dX3_place_95 (by decide) ?_
          exact ih16 r9 (z9 + 1, o) _ _ _ (by omega) ⟨(by omega), (by omega), (by rw [hw]; first | exact cnt_t (decide_eq_true ⟨c43, Or.inl c59⟩) | exact cnt_t (decide_eq_true ⟨c43, Or.inr ⟨c75, by omega⟩⟩) | exact cnt_f (decide_eq_false (fun h9 => c43 h9.1)) | exact cnt_f (decide_eq_false (fun h9 => h9.2.elim c59 (fun h => c75 h.1))) | exact cnt_f (decide_eq_false (fun h9 => h9.2.elim c59 (fun h => absurd h.2 (by omega))))), rfl, rfl, lv_sub hl [0, 1, 2, 3, 4, 5] rfl⟩
        · replace c43 : rdy M q (nI d) z9 := b2_of1 c43
          refine lv_aload_n hx hb dX3_place_46 rfl (lv_at hl 3 rfl) ?_
          refine va_get (D := G) (ci := 5) (v := .ref (a 11)) (C := RX3) (T := TX3) (N := 19) hx hb hts hinX3 hown hK hP 0 rfl rfl 11 (by decide) fl42 (fun _ h9 => h9) rfl dX3_place_47 ?_
          refine lv_iload hx hb dX3_place_50 (lv_at hl 0 rfl) ?_
          refine y_iald hx hb hK hP 11 0 rfl rfl (j := z9) (by omega) hsz1 dX3_place_52 ?_
          refine lv_aload_n hx hb dX3_place_53 rfl (lv_at hl 3 rfl) ?_
          refine va_get (D := G) (ci := 5) (v := .ref (a 11)) (C := RX3) (T := TX3) (N := 19) hx hb hts hinX3 hown hK hP 0 rfl rfl 11 (by decide) fl42 (fun _ h9 => h9) rfl dX3_place_54 ?_
          refine lv_iload_n hx hb dX3_place_57 rfl (lv_at hl 2 rfl) ?_
          refine y_iald hx hb hK hP 11 0 rfl rfl (j := i) (by omega) hsz1 dX3_place_58 ?_
          refine lv_icmp_lt (tgt := 84) hx hb dX3_place_59 (by decide) (fun c59 => ?_) (fun c59 => ?_)
          · skip
            refine lv_iconst (v := 1) hx hb dX3_place_84 (by decide) ?_
            refine lv_goto (tgt := 89) hx hb dX3_place_85 (by decide) ?_
            refine lv_iadd hx hb dX3_place_89 ?_
            refine y_top (nI_1 o) ?_
            refine lv_istore (lv' := [(4, .int (nI (o + 1))), (5, .int (nI z9)), (3, .int (nI i)), (0, .ref (a 0)), (1, .int q), (2, .int pl)]) hx hb dX3_place_90 hl (by decide) rfl (fun ls hl => ?_)
            refine lv_iinc (v := nI (z9 + 1)) (lv' := [(5, .int (nI (z9 + 1))), (4, .int (nI (o + 1))), (3, .int (nI i)), (0, .ref (a 0)), (1, .int q), (2, .int pl)]) hx hb dX3_place_92 hl (k := 1) rfl (nI_1 z9) (by decide) rfl (fun ls hl => ?_)
            refine lv_goto (tgt := 16) hx hb dX3_place_95 (by decide) ?_
            exact ih16 r9 (z9 + 1, o + 1) _ _ _ (by omega) ⟨(by omega), (by omega), (by rw [hw]; first | exact cnt_t (decide_eq_true ⟨c43, Or.inl c59⟩) | exact cnt_t (decide_eq_true ⟨c43, Or.inr ⟨c75, by omega⟩⟩) | exact cnt_f (decide_eq_false (fun h9 => c43 h9.1)) | exact cnt_f (decide_eq_false (fun h9 => h9.2.elim c59 (fun h => c75 h.1))) | exact cnt_f (decide_eq_false (fun h9 => h9.2.elim c59 (fun h => absurd h.2 (by omega))))), rfl, rfl, lv_sub hl [0, 1, 2, 3, 4, 5] rfl⟩
          · skip
            refine lv_aload_n hx hb dX3_place_62 rfl (lv_at hl 3 rfl) ?_
            refine va_get (D := G) (ci := 5) (v := .ref (a 11)) (C := RX3) (T := TX3) (N := 19) hx hb hts hinX3 hown hK hP 0 rfl rfl 11 (by decide) fl42 (fun _ h9 => h9) rfl dX3_place_63 ?_
            refine lv_iload hx hb dX3_place_66 (lv_at hl 0 rfl) ?_
            refine y_iald hx hb hK hP 11 0 rfl rfl (j := z9) (by omega) hsz1 dX3_place_68 ?_
            refine lv_aload_n hx hb dX3_place_69 rfl (lv_at hl 3 rfl) ?_
            refine va_get (D := G) (ci := 5) (v := .ref (a 11)) (C := RX3) (T := TX3) (N := 19) hx hb hts hinX3 hown hK hP 0 rfl rfl 11 (by decide) fl42 (fun _ h9 => h9) rfl dX3_place_70 ?_
            refine lv_iload_n hx hb dX3_place_73 rfl (lv_at hl 2 rfl) ?_
            refine y_iald hx hb hK hP 11 0 rfl rfl (j := i) (by omega) hsz1 dX3_place_74 ?_
            refine lv_icmp_ne (tgt := 88) hx hb dX3_place_75 (by decide) (fun c75 => ?_) (fun c75 => ?_)
            · skip
              refine lv_iconst (v := 0) hx hb dX3_place_88 (by decide) ?_
              refine lv_iadd hx hb dX3_place_89 ?_
              refine y_top (y_add0 _) ?_
              refine lv_istore (lv' := [(4, .int (nI o)), (5, .int (nI z9)), (3, .int (nI i)), (0, .ref (a 0)), (1, .int q), (2, .int pl)]) hx hb dX3_place_90 hl (by decide) rfl (fun ls hl => ?_)
              refine lv_iinc (v := nI (z9 + 1)) (lv' := [(5, .int (nI (z9 + 1))), (4, .int (nI o)), (3, .int (nI i)), (0, .ref (a 0)), (1, .int q), (2, .int pl)]) hx hb dX3_place_92 hl (k := 1) rfl (nI_1 z9) (by decide) rfl (fun ls hl => ?_)
              refine lv_goto (tgt := 16) hx hb dX3_place_95 (by decide) ?_
              exact ih16 r9 (z9 + 1, o) _ _ _ (by omega) ⟨(by omega), (by omega), (by rw [hw]; first | exact cnt_t (decide_eq_true ⟨c43, Or.inl c59⟩) | exact cnt_t (decide_eq_true ⟨c43, Or.inr ⟨c75, by omega⟩⟩) | exact cnt_f (decide_eq_false (fun h9 => c43 h9.1)) | exact cnt_f (decide_eq_false (fun h9 => h9.2.elim c59 (fun h => c75 h.1))) | exact cnt_f (decide_eq_false (fun h9 => h9.2.elim c59 (fun h => absurd h.2 (by omega))))), rfl, rfl, lv_sub hl [0, 1, 2, 3, 4, 5] rfl⟩
            · skip
              refine lv_iload hx hb dX3_place_78 (lv_at hl 0 rfl) ?_
              refine lv_iload_n hx hb dX3_place_80 rfl (lv_at hl 2 rfl) ?_
              refine lv_icmp_ge (tgt := 88) hx hb dX3_place_81 (by decide) (fun c81 => ?_) (fun c81 => ?_)
              · replace c81 : i ≤ z9 := (nI_leI (a := i) (b := z9) (by omega) (by omega)).mp c81
                refine lv_iconst (v := 0) hx hb dX3_place_88 (by decide) ?_
                refine lv_iadd hx hb dX3_place_89 ?_
                refine y_top (y_add0 _) ?_
                refine lv_istore (lv' := [(4, .int (nI o)), (5, .int (nI z9)), (3, .int (nI i)), (0, .ref (a 0)), (1, .int q), (2, .int pl)]) hx hb dX3_place_90 hl (by decide) rfl (fun ls hl => ?_)
                refine lv_iinc (v := nI (z9 + 1)) (lv' := [(5, .int (nI (z9 + 1))), (4, .int (nI o)), (3, .int (nI i)), (0, .ref (a 0)), (1, .int q), (2, .int pl)]) hx hb dX3_place_92 hl (k := 1) rfl (nI_1 z9) (by decide) rfl (fun ls hl => ?_)
                refine lv_goto (tgt := 16) hx hb dX3_place_95 (by decide) ?_
                exact ih16 r9 (z9 + 1, o) _ _ _ (by omega) ⟨(by omega), (by omega), (by rw [hw]; first | exact cnt_t (decide_eq_true ⟨c43, Or.inl c59⟩) | exact cnt_t (decide_eq_true ⟨c43, Or.inr ⟨c75, by omega⟩⟩) | exact cnt_f (decide_eq_false (fun h9 => c43 h9.1)) | exact cnt_f (decide_eq_false (fun h9 => h9.2.elim c59 (fun h => c75 h.1))) | exact cnt_f (decide_eq_false (fun h9 => h9.2.elim c59 (fun h => absurd h.2 (by omega))))), rfl, rfl, lv_sub hl [0, 1, 2, 3, 4, 5] rfl⟩
              · replace c81 : ¬ i ≤ z9 := fun h9 => c81 ((nI_leI (a := i) (b := z9) (by omega) (by omega)).mpr h9)
                refine lv_iconst (v := 1) hx hb dX3_place_84 (by decide) ?_
                refine lv_goto (tgt := 89) hx hb dX3_place_85 (by decide) ?_
                refine lv_iadd hx hb dX3_place_89 ?_
                refine y_top (nI_1 o) ?_
                refine lv_istore (lv' := [(4, .int (nI (o + 1))), (5, .int (nI z9)), (3, .int (nI i)), (0, .ref (a 0)), (1, .int q), (2, .int pl)]) hx hb dX3_place_90 hl (by decide) rfl (fun ls hl => ?_)
                refine lv_iinc (v := nI (z9 + 1)) (lv' := [(5, .int (nI (z9 + 1))), (4, .int (nI (o + 1))), (3, .int (nI i)), (0, .ref (a 0)), (1, .int q), (2, .int pl)]) hx hb dX3_place_92 hl (k := 1) rfl (nI_1 z9) (by decide) rfl (fun ls hl => ?_)
                refine lv_goto (tgt := 16) hx hb dX3_place_95 (by decide) ?_
                exact ih16 r9 (z9 + 1, o + 1) _ _ _ (by omega) ⟨(by omega), (by omega), (by rw [hw]; first | exact cnt_t (decide_eq_true ⟨c43, Or.inl c59⟩) | exact cnt_t (decide_eq_true ⟨c43, Or.inr ⟨c75, by omega⟩⟩) | exact cnt_f (decide_eq_false (fun h9 => c43 h9.1)) | exact cnt_f (decide_eq_false (fun h9 => h9.2.elim c59 (fun h => c75 h.1))) | exact cnt_f (decide_eq_false (fun h9 => h9.2.elim c59 (fun h => absurd h.2 (by omega))))), rfl, rfl, lv_sub hl [0, 1, 2, 3, 4, 5] rfl⟩
