set_option maxHeartbeats 4000000 in
set_option maxRecDepth 100000 in
theorem c_of_0 (l : Launch) (hl9 : l.stackTraces = false) (G : va_G) (k : Nat → ClassId) (h : Nat) (a c : Nat → Nat) (σ : SX) (sz : Nat) (x : Int32) (hI : yIs σ) : Met l yL_of wsL_of ({ frames := 8, cells := 1, slots := 6, locals := 132 }) (va_Pc [.ref h, .int x, .int 0] (yL G (yT k) (WS k h a c σ) sz)) (va_Qi (fun (r : Int32) (_ : Unit) => r = f_of 0 x σ) (fun _ _ => True) (fun q : Nat => sz ≤ q)) 1 6 (fun q : Nat => sz ≤ q) := by
  refine va_MetW (cc := cL_of) (maxL := 4) (ret := (some .int)) (hh := [(0, 64, 65, 20), (0, 64, 70, 39), (0, 64, 75, 15)]) (by decide) rfl ?_
  intro p e s m args below meth c_ s₁ B hml hv
  obtain ⟨rfl, hsz, hP, hK, hV⟩ := hv
  have hE : yEV0 s s.heap := hV.1
  have hNC : yNC s := hV.2.1
  have hx := B.exec
  have hb := B.bytes
  have hr := B.returns
  have hts := atoms_spec (ws := wsL_of) B.pre
  have hown : s.vm.findClass RL = some m.cls := findClass_of_methodNamed B.named
  have htab : c_.exceptionTable.toList = tableOf [(0, 64, 65, 20), (0, 64, 70, 39), (0, 64, 75, 15)] := vx_table (x := yL_of) B (hts (.codeWith yL_of cL_of 4 (some .int) [(0, 64, 65, 20), (0, 64, 70, 39), (0, 64, 75, 15)]) List.mem_cons_self)
  have hlocks := B.notSynchronized
  subst hsz
  have hS : va_S (fun q : Nat => s.heap.size ≤ q) s.heap s.heap [] := va_S.rf
  have hP2 := hP
  have hl := lv_entry ([.ref h, .int x, .int 0]) (n := 4) (Nat.le_of_ble_eq_true rfl)
  rw [lg_entry_eq]
  generalize (lg_sl ([.ref h, .int x, .int 0]) ++ List.replicate (4 - (lg_sl ([.ref h, .int x, .int 0])).length) Slot.unset).toArray = ls at hl ⊢
  have hl : lv_has ls 4 [(0, .ref h), (1, .int x), (2, .int 0)] := hl
  refine lv_iload_n hx hb dL_of_0 rfl (lv_at hl 2 rfl) ?_
  refine lv_if_ne (tgt := 12) hx hb dL_of_1 (by decide) (fun c9 => absurd c9 (by decide)) (fun _ => ?_)
  refine lv_aload_n hx hb dL_of_4 rfl (lv_at hl 0 rfl) ?_
  refine lv_iload_n hx hb dL_of_5 rfl (lv_at hl 1 rfl) ?_
  refine y_hread (mk := Value.int) yQi (vx_runV (As := [.int x]) (rest := []) ⟨hx, hb, hml, hown, hts⟩ (c_X2_amount l hl9 G k h a c σ.1 σ.2.1 σ.2.2.1 σ.2.2.2.1 σ.2.2.2.2.1 σ.2.2.2.2.2 x hI.1) (cwV 1 hts gL_of_X2_amount rfl rfl rfl (by decide +kernel) ⟨Nat.le_of_ble_eq_true rfl, Nat.le_of_ble_eq_true rfl⟩) ⟨yE_blind, va_recv hK hP2 (ci := 4) (q0 := 0) rfl rfl, fun U hU hW => ⟨rfl, by rw [hU]; exact hP2, va_K.moved hW.alike hK, yEV_at hE hU hW⟩⟩ rfl rfl hl.1 rfl (lv_room (Nat.le_of_ble_eq_true rfl)) dL_of_6 ⟨Nat.le_of_ble_eq_true rfl, Nat.le_of_ble_eq_true rfl⟩) hS ?_ (fun r hp9 => ?_)
  · intro E ce q9 H1 locs1 hpx hk9 hS9 hce hcv hcl
    rcases hpx with ⟨rfl, hcd⟩
    · refine vx_catch (own := RL) (name := "java/lang/IndexOutOfBoundsException") (E := "java/lang/IndexOutOfBoundsException") (ce := ce) hown [] (⟨0, 64, 65, 20⟩ : ExceptionTableEntry) [(⟨0, 64, 70, 39⟩ : ExceptionTableEntry), (⟨0, 64, 75, 15⟩ : ExceptionTableEntry)] (by rw [htab]; rfl) (fun _ h => absurd h List.not_mem_nil) (by decide) (by decide) (hts (.classLink RL 20 "java/lang/IndexOutOfBoundsException") (by decide +kernel)) (va_Nw.use rfl (hE.1 (.castable "java/lang/IndexOutOfBoundsException" "java/lang/IndexOutOfBoundsException") (by decide +kernel))) hce hcv hcl ?_
      refine lv_astore_n (lv' := [(3, .ref q9), (0, .ref h), (1, .int x), (2, .int 0)]) hx hb dL_of_65 rfl hl (by decide) rfl (fun ls hl => ?_)
      refine lv_sipush (v := (-1001)) hx hb dL_of_66 (by decide) ?_
      exact W.iret (v := (-1001)) hx hb hr (fun τ hτ hW => ⟨⟨_, (), rfl, (er_c hcd (by decide) (by decide)), trivial⟩, hS9.F hτ⟩) hS9.2.2 dL_of_69
  · obtain ⟨hp8, hp9⟩ := hp9
    subst hp9
    refine lv_goto (tgt := 64) hx hb dL_of_9 (by decide) ?_
    exact W.iret (v := ((o_amount x σ.1 σ.2.1).2)) hx hb hr (fun τ hτ hW => ⟨⟨_, (), rfl, (er_0 hp8).symm, trivial⟩, hS.F hτ⟩) hS.2.2 dL_of_64

set_option maxHeartbeats 4000000 in
set_option maxRecDepth 100000 in
theorem c_of_1 (l : Launch) (hl9 : l.stackTraces = false) (G : va_G) (k : Nat → ClassId) (h : Nat) (a c : Nat → Nat) (σ : SX) (sz : Nat) (x : Int32) (hI : yIs σ) : Met l yL_of wsL_of ({ frames := 8, cells := 1, slots := 6, locals := 132 }) (va_Pc [.ref h, .int x, .int 1] (yL G (yT k) (WS k h a c σ) sz)) (va_Qi (fun (r : Int32) (_ : Unit) => r = f_of 1 x σ) (fun _ _ => True) (fun q : Nat => sz ≤ q)) 1 6 (fun q : Nat => sz ≤ q) := by
  refine va_MetW (cc := cL_of) (maxL := 4) (ret := (some .int)) (hh := [(0, 64, 65, 20), (0, 64, 70, 39), (0, 64, 75, 15)]) (by decide) rfl ?_
  intro p e s m args below meth c_ s₁ B hml hv
  obtain ⟨rfl, hsz, hP, hK, hV⟩ := hv
  have hE : yEV0 s s.heap := hV.1
  have hNC : yNC s := hV.2.1
  have hx := B.exec
  have hb := B.bytes
  have hr := B.returns
  have hts := atoms_spec (ws := wsL_of) B.pre
  have hown : s.vm.findClass RL = some m.cls := findClass_of_methodNamed B.named
  have htab : c_.exceptionTable.toList = tableOf [(0, 64, 65, 20), (0, 64, 70, 39), (0, 64, 75, 15)] := vx_table (x := yL_of) B (hts (.codeWith yL_of cL_of 4 (some .int) [(0, 64, 65, 20), (0, 64, 70, 39), (0, 64, 75, 15)]) List.mem_cons_self)
  have hlocks := B.notSynchronized
  subst hsz
  have hS : va_S (fun q : Nat => s.heap.size ≤ q) s.heap s.heap [] := va_S.rf
  have hP2 := hP
  have hl := lv_entry ([.ref h, .int x, .int 1]) (n := 4) (Nat.le_of_ble_eq_true rfl)
  rw [lg_entry_eq]
  generalize (lg_sl ([.ref h, .int x, .int 1]) ++ List.replicate (4 - (lg_sl ([.ref h, .int x, .int 1])).length) Slot.unset).toArray = ls at hl ⊢
  have hl : lv_has ls 4 [(0, .ref h), (1, .int x), (2, .int 1)] := hl
  refine lv_iload_n hx hb dL_of_0 rfl (lv_at hl 2 rfl) ?_
  refine lv_if_ne (tgt := 12) hx hb dL_of_1 (by decide) (fun _ => ?_) (fun c9 => absurd c9 (by decide))
  refine lv_iload_n hx hb dL_of_12 rfl (lv_at hl 2 rfl) ?_
  refine lv_iconst (v := 1) hx hb dL_of_13 (by decide) ?_
  refine lv_icmp_ne (tgt := 25) hx hb dL_of_14 (by decide) (fun c9 => absurd c9 (by decide)) (fun _ => ?_)
  refine lv_aload_n hx hb dL_of_17 rfl (lv_at hl 0 rfl) ?_
  refine lv_iload_n hx hb dL_of_18 rfl (lv_at hl 1 rfl) ?_
  refine y_hread (mk := Value.int) yQi (vx_runV (As := [.int x]) (rest := []) ⟨hx, hb, hml, hown, hts⟩ (c_X2_letters l hl9 G k h a c σ.1 σ.2.1 σ.2.2.1 σ.2.2.2.1 σ.2.2.2.2.1 σ.2.2.2.2.2 x hI.1) (cwV 1 hts gL_of_X2_letters rfl rfl rfl (by decide +kernel) ⟨Nat.le_of_ble_eq_true rfl, Nat.le_of_ble_eq_true rfl⟩) ⟨yE_blind, va_recv hK hP2 (ci := 4) (q0 := 0) rfl rfl, fun U hU hW => ⟨rfl, by rw [hU]; exact hP2, va_K.moved hW.alike hK, yEV_at hE hU hW⟩⟩ rfl rfl hl.1 rfl (lv_room (Nat.le_of_ble_eq_true rfl)) dL_of_19 ⟨Nat.le_of_ble_eq_true rfl, Nat.le_of_ble_eq_true rfl⟩) hS ?_ (fun r hp9 => ?_)
  · intro E ce q9 H1 locs1 hpx hk9 hS9 hce hcv hcl
    rcases hpx with ⟨rfl, hcd⟩
    · refine vx_catch (own := RL) (name := "java/lang/IndexOutOfBoundsException") (E := "java/lang/IndexOutOfBoundsException") (ce := ce) hown [] (⟨0, 64, 65, 20⟩ : ExceptionTableEntry) [(⟨0, 64, 70, 39⟩ : ExceptionTableEntry), (⟨0, 64, 75, 15⟩ : ExceptionTableEntry)] (by rw [htab]; rfl) (fun _ h => absurd h List.not_mem_nil) (by decide) (by decide) (hts (.classLink RL 20 "java/lang/IndexOutOfBoundsException") (by decide +kernel)) (va_Nw.use rfl (hE.1 (.castable "java/lang/IndexOutOfBoundsException" "java/lang/IndexOutOfBoundsException") (by decide +kernel))) hce hcv hcl ?_
      refine lv_astore_n (lv' := [(3, .ref q9), (0, .ref h), (1, .int x), (2, .int 1)]) hx hb dL_of_65 rfl hl (by decide) rfl (fun ls hl => ?_)
      refine lv_sipush (v := (-1001)) hx hb dL_of_66 (by decide) ?_
      exact W.iret (v := (-1001)) hx hb hr (fun τ hτ hW => ⟨⟨_, (), rfl, (er_c hcd (by decide) (by decide)), trivial⟩, hS9.F hτ⟩) hS9.2.2 dL_of_69
  · obtain ⟨hp8, hp9⟩ := hp9
    subst hp9
    refine lv_goto (tgt := 64) hx hb dL_of_22 (by decide) ?_
    exact W.iret (v := ((o_letters x σ.1 σ.2.1).2)) hx hb hr (fun τ hτ hW => ⟨⟨_, (), rfl, (er_0 hp8).symm, trivial⟩, hS.F hτ⟩) hS.2.2 dL_of_64

set_option maxHeartbeats 4000000 in
set_option maxRecDepth 100000 in
theorem c_of_2 (l : Launch) (hl9 : l.stackTraces = false) (G : va_G) (k : Nat → ClassId) (h : Nat) (a c : Nat → Nat) (σ : SX) (sz : Nat) (x : Int32) (hI : yIs σ) : Met l yL_of wsL_of ({ frames := 8, cells := 1, slots := 6, locals := 132 }) (va_Pc [.ref h, .int x, .int 2] (yL G (yT k) (WS k h a c σ) sz)) (va_Qi (fun (r : Int32) (_ : Unit) => r = f_of 2 x σ) (fun _ _ => True) (fun q : Nat => sz ≤ q)) 1 6 (fun q : Nat => sz ≤ q) := by
  refine va_MetW (cc := cL_of) (maxL := 4) (ret := (some .int)) (hh := [(0, 64, 65, 20), (0, 64, 70, 39), (0, 64, 75, 15)]) (by decide) rfl ?_
  intro p e s m args below meth c_ s₁ B hml hv
  obtain ⟨rfl, hsz, hP, hK, hV⟩ := hv
  have hE : yEV0 s s.heap := hV.1
  have hNC : yNC s := hV.2.1
  have hx := B.exec
  have hb := B.bytes
  have hr := B.returns
  have hts := atoms_spec (ws := wsL_of) B.pre
  have hown : s.vm.findClass RL = some m.cls := findClass_of_methodNamed B.named
  have htab : c_.exceptionTable.toList = tableOf [(0, 64, 65, 20), (0, 64, 70, 39), (0, 64, 75, 15)] := vx_table (x := yL_of) B (hts (.codeWith yL_of cL_of 4 (some .int) [(0, 64, 65, 20), (0, 64, 70, 39), (0, 64, 75, 15)]) List.mem_cons_self)
  have hlocks := B.notSynchronized
  subst hsz
  have hS : va_S (fun q : Nat => s.heap.size ≤ q) s.heap s.heap [] := va_S.rf
  have hP2 := hP
  have hl := lv_entry ([.ref h, .int x, .int 2]) (n := 4) (Nat.le_of_ble_eq_true rfl)
  rw [lg_entry_eq]
  generalize (lg_sl ([.ref h, .int x, .int 2]) ++ List.replicate (4 - (lg_sl ([.ref h, .int x, .int 2])).length) Slot.unset).toArray = ls at hl ⊢
  have hl : lv_has ls 4 [(0, .ref h), (1, .int x), (2, .int 2)] := hl
  refine lv_iload_n hx hb dL_of_0 rfl (lv_at hl 2 rfl) ?_
  refine lv_if_ne (tgt := 12) hx hb dL_of_1 (by decide) (fun _ => ?_) (fun c9 => absurd c9 (by decide))
  refine lv_iload_n hx hb dL_of_12 rfl (lv_at hl 2 rfl) ?_
  refine lv_iconst (v := 1) hx hb dL_of_13 (by decide) ?_
  refine lv_icmp_ne (tgt := 25) hx hb dL_of_14 (by decide) (fun _ => ?_) (fun c9 => absurd c9 (by decide))
  refine lv_iload_n hx hb dL_of_25 rfl (lv_at hl 2 rfl) ?_
  refine lv_iconst (v := 2) hx hb dL_of_26 (by decide) ?_
  refine lv_icmp_ne (tgt := 38) hx hb dL_of_27 (by decide) (fun c9 => absurd c9 (by decide)) (fun _ => ?_)
  refine lv_aload_n hx hb dL_of_30 rfl (lv_at hl 0 rfl) ?_
  refine lv_iload_n hx hb dL_of_31 rfl (lv_at hl 1 rfl) ?_
  refine y_hread (mk := Value.int) yQi (vx_runV (As := [.int x]) (rest := []) ⟨hx, hb, hml, hown, hts⟩ (c_X2_lettersByMessages l hl9 G k h a c σ.1 σ.2.1 σ.2.2.1 σ.2.2.2.1 σ.2.2.2.2.1 σ.2.2.2.2.2 x hI.1 hI.2.1 (yJ_ds hI)) (cwV 1 hts gL_of_X2_lettersByMessages rfl rfl rfl (by decide +kernel) ⟨Nat.le_of_ble_eq_true rfl, Nat.le_of_ble_eq_true rfl⟩) ⟨yE_blind, va_recv hK hP2 (ci := 4) (q0 := 0) rfl rfl, fun U hU hW => ⟨rfl, by rw [hU]; exact hP2, va_K.moved hW.alike hK, yEV_at hE hU hW⟩⟩ rfl rfl hl.1 rfl (lv_room (Nat.le_of_ble_eq_true rfl)) dL_of_32 ⟨Nat.le_of_ble_eq_true rfl, Nat.le_of_ble_eq_true rfl⟩) hS ?_ (fun r hp9 => ?_)
  · intro E ce q9 H1 locs1 hpx hk9 hS9 hce hcv hcl
    rcases hpx with ⟨rfl, hcd⟩
    · refine vx_catch (own := RL) (name := "java/lang/IndexOutOfBoundsException") (E := "java/lang/IndexOutOfBoundsException") (ce := ce) hown [] (⟨0, 64, 65, 20⟩ : ExceptionTableEntry) [(⟨0, 64, 70, 39⟩ : ExceptionTableEntry), (⟨0, 64, 75, 15⟩ : ExceptionTableEntry)] (by rw [htab]; rfl) (fun _ h => absurd h List.not_mem_nil) (by decide) (by decide) (hts (.classLink RL 20 "java/lang/IndexOutOfBoundsException") (by decide +kernel)) (va_Nw.use rfl (hE.1 (.castable "java/lang/IndexOutOfBoundsException" "java/lang/IndexOutOfBoundsException") (by decide +kernel))) hce hcv hcl ?_
      refine lv_astore_n (lv' := [(3, .ref q9), (0, .ref h), (1, .int x), (2, .int 2)]) hx hb dL_of_65 rfl hl (by decide) rfl (fun ls hl => ?_)
      refine lv_sipush (v := (-1001)) hx hb dL_of_66 (by decide) ?_
      exact W.iret (v := (-1001)) hx hb hr (fun τ hτ hW => ⟨⟨_, (), rfl, (er_c hcd (by decide) (by decide)), trivial⟩, hS9.F hτ⟩) hS9.2.2 dL_of_69
  · obtain ⟨hp8, hp9⟩ := hp9
    subst hp9
    refine lv_goto (tgt := 64) hx hb dL_of_35 (by decide) ?_
    exact W.iret (v := ((o_lbm x σ.1 σ.2.1 σ.2.2.1 σ.2.2.2.1 σ.2.2.2.2.1).2)) hx hb hr (fun τ hτ hW => ⟨⟨_, (), rfl, (er_0 hp8).symm, trivial⟩, hS.F hτ⟩) hS.2.2 dL_of_64

set_option maxHeartbeats 4000000 in
set_option maxRecDepth 100000 in
theorem c_of_3 (l : Launch) (hl9 : l.stackTraces = false) (G : va_G) (k : Nat → ClassId) (h : Nat) (a c : Nat → Nat) (σ : SX) (sz : Nat) (x : Int32) (hI : yIs σ) : Met l yL_of wsL_of ({ frames := 8, cells := 2, slots := 12, locals := 133 }) (va_Pc [.ref h, .int x, .int 3] (yL G (yT k) (WS k h a c σ) sz)) (va_Qi (fun (r : Int32) (_ : Unit) => r = f_of 3 x σ) (fun _ _ => True) (fun q : Nat => sz ≤ q)) 2 12 (fun q : Nat => sz ≤ q) := by
  refine va_MetW (cc := cL_of) (maxL := 4) (ret := (some .int)) (hh := [(0, 64, 65, 20), (0, 64, 70, 39), (0, 64, 75, 15)]) (by decide) rfl ?_
  intro p e s m args below meth c_ s₁ B hml hv
  obtain ⟨rfl, hsz, hP, hK, hV⟩ := hv
  have hE : yEV0 s s.heap := hV.1
  have hNC : yNC s := hV.2.1
  have hx := B.exec
  have hb := B.bytes
  have hr := B.returns
  have hts := atoms_spec (ws := wsL_of) B.pre
  have hown : s.vm.findClass RL = some m.cls := findClass_of_methodNamed B.named
  have htab : c_.exceptionTable.toList = tableOf [(0, 64, 65, 20), (0, 64, 70, 39), (0, 64, 75, 15)] := vx_table (x := yL_of) B (hts (.codeWith yL_of cL_of 4 (some .int) [(0, 64, 65, 20), (0, 64, 70, 39), (0, 64, 75, 15)]) List.mem_cons_self)
  have hlocks := B.notSynchronized
  subst hsz
  have hS : va_S (fun q : Nat => s.heap.size ≤ q) s.heap s.heap [] := va_S.rf
  have hP2 := hP
  have hl := lv_entry ([.ref h, .int x, .int 3]) (n := 4) (Nat.le_of_ble_eq_true rfl)
  rw [lg_entry_eq]
  generalize (lg_sl ([.ref h, .int x, .int 3]) ++ List.replicate (4 - (lg_sl ([.ref h, .int x, .int 3])).length) Slot.unset).toArray = ls at hl ⊢
  have hl : lv_has ls 4 [(0, .ref h), (1, .int x), (2, .int 3)] := hl
  refine lv_iload_n hx hb dL_of_0 rfl (lv_at hl 2 rfl) ?_
  refine lv_if_ne (tgt := 12) hx hb dL_of_1 (by decide) (fun _ => ?_) (fun c9 => absurd c9 (by decide))
  refine lv_iload_n hx hb dL_of_12 rfl (lv_at hl 2 rfl) ?_
  refine lv_iconst (v := 1) hx hb dL_of_13 (by decide) ?_
  refine lv_icmp_ne (tgt := 25) hx hb dL_of_14 (by decide) (fun _ => ?_) (fun c9 => absurd c9 (by decide))
  refine lv_iload_n hx hb dL_of_25 rfl (lv_at hl 2 rfl) ?_
  refine lv_iconst (v := 2) hx hb dL_of_26 (by decide) ?_
  refine lv_icmp_ne (tgt := 38) hx hb dL_of_27 (by decide) (fun _ => ?_) (fun c9 => absurd c9 (by decide))
  refine lv_iload_n hx hb dL_of_38 rfl (lv_at hl 2 rfl) ?_
  refine lv_iconst (v := 3) hx hb dL_of_39 (by decide) ?_
  refine lv_icmp_ne (tgt := 51) hx hb dL_of_40 (by decide) (fun c9 => absurd c9 (by decide)) (fun _ => ?_)
  refine lv_aload_n hx hb dL_of_43 rfl (lv_at hl 0 rfl) ?_
  refine lv_iload_n hx hb dL_of_44 rfl (lv_at hl 1 rfl) ?_
  refine y_hread (mk := Value.int) yQi (vx_runV (As := [.int x]) (rest := []) ⟨hx, hb, hml, hown, hts⟩ (c_X2_nextReminder l hl9 G k h a c σ.1 σ.2.1 σ.2.2.1 σ.2.2.2.1 σ.2.2.2.2.1 σ.2.2.2.2.2 x hI.1 hI.2.1) (cwV 1 hts gL_of_X2_nextReminder rfl rfl rfl (by decide +kernel) ⟨Nat.le_of_ble_eq_true rfl, Nat.le_of_ble_eq_true rfl⟩) ⟨yE_blind, va_recv hK hP2 (ci := 4) (q0 := 0) rfl rfl, fun U hU hW => ⟨rfl, by rw [hU]; exact hP2, va_K.moved hW.alike hK, yEV_at hE hU hW⟩⟩ rfl rfl hl.1 rfl (lv_room (Nat.le_of_ble_eq_true rfl)) dL_of_45 ⟨Nat.le_of_ble_eq_true rfl, Nat.le_of_ble_eq_true rfl⟩) hS ?_ (fun r hp9 => ?_)
  · intro E ce q9 H1 locs1 hpx hk9 hS9 hce hcv hcl
    rcases hpx with ⟨rfl, hcd⟩ | ⟨rfl, hcd⟩
    · refine vx_catch (own := RL) (name := "java/lang/IndexOutOfBoundsException") (E := "java/lang/IndexOutOfBoundsException") (ce := ce) hown [] (⟨0, 64, 65, 20⟩ : ExceptionTableEntry) [(⟨0, 64, 70, 39⟩ : ExceptionTableEntry), (⟨0, 64, 75, 15⟩ : ExceptionTableEntry)] (by rw [htab]; rfl) (fun _ h => absurd h List.not_mem_nil) (by decide) (by decide) (hts (.classLink RL 20 "java/lang/IndexOutOfBoundsException") (by decide +kernel)) (va_Nw.use rfl (hE.1 (.castable "java/lang/IndexOutOfBoundsException" "java/lang/IndexOutOfBoundsException") (by decide +kernel))) hce hcv hcl ?_
      refine lv_astore_n (lv' := [(3, .ref q9), (0, .ref h), (1, .int x), (2, .int 3)]) hx hb dL_of_65 rfl hl (by decide) rfl (fun ls hl => ?_)
      refine lv_sipush (v := (-1001)) hx hb dL_of_66 (by decide) ?_
      exact W.iret (v := (-1001)) hx hb hr (fun τ hτ hW => ⟨⟨_, (), rfl, (er_c hcd (by decide) (by decide)), trivial⟩, hS9.F hτ⟩) hS9.2.2 dL_of_69
    · refine vx_catch (own := RL) (name := "java/util/NoSuchElementException") (E := "java/util/NoSuchElementException") (ce := ce) hown [(⟨0, 64, 65, 20⟩ : ExceptionTableEntry)] (⟨0, 64, 70, 39⟩ : ExceptionTableEntry) [(⟨0, 64, 75, 15⟩ : ExceptionTableEntry)] (by rw [htab]; rfl) (List.forall_mem_cons.mpr ⟨Or.inr ⟨by decide, "java/lang/IndexOutOfBoundsException", hts (.classLink RL 20 "java/lang/IndexOutOfBoundsException") (by decide +kernel), hNC ("java/util/NoSuchElementException", "java/lang/IndexOutOfBoundsException") (by decide +kernel)⟩, fun _ h => absurd h List.not_mem_nil⟩) (by decide) (by decide) (hts (.classLink RL 39 "java/util/NoSuchElementException") (by decide +kernel)) (va_Nw.use rfl (hE.1 (.castable "java/util/NoSuchElementException" "java/util/NoSuchElementException") (by decide +kernel))) hce hcv hcl ?_
      refine lv_astore_n (lv' := [(3, .ref q9), (0, .ref h), (1, .int x), (2, .int 3)]) hx hb dL_of_70 rfl hl (by decide) rfl (fun ls hl => ?_)
      refine lv_sipush (v := (-1002)) hx hb dL_of_71 (by decide) ?_
      exact W.iret (v := (-1002)) hx hb hr (fun τ hτ hW => ⟨⟨_, (), rfl, (er_c hcd (by decide) (by decide)), trivial⟩, hS9.F hτ⟩) hS9.2.2 dL_of_74
  · obtain ⟨hp8, hp9⟩ := hp9
    subst hp9
    refine lv_goto (tgt := 64) hx hb dL_of_48 (by decide) ?_
    exact W.iret (v := ((o_nextReminder x σ.1 σ.2.1 σ.2.2.1 σ.2.2.2.2.1 σ.2.2.2.2.2).2)) hx hb hr (fun τ hτ hW => ⟨⟨_, (), rfl, (er_0 hp8).symm, trivial⟩, hS.F hτ⟩) hS.2.2 dL_of_64

set_option maxHeartbeats 4000000 in
set_option maxRecDepth 100000 in
theorem c_of_4 (l : Launch) (hl9 : l.stackTraces = false) (G : va_G) (k : Nat → ClassId) (h : Nat) (a c : Nat → Nat) (σ : SX) (sz : Nat) (x : Int32) (hND : va_D (fun _ => True) (WS k h a c σ)) (hI : yIs σ) : Met l yL_of wsL_of ({ frames := 8, cells := 2, slots := 12, locals := 133 }) (va_Pc [.ref h, .int x, .int 4] (yL G (yT k) (WS k h a c σ) sz)) (va_Qi (fun (r : Int32) (_ : Unit) => r = f_await x σ) (fun _ τ => va_P G vwCl (WS k h a c (g_await x σ)) τ.heap) (va_A (WS k h a c σ) sz)) 2 12 (va_A (WS k h a c σ) sz) := by
  refine va_MetW (cc := cL_of) (maxL := 4) (ret := (some .int)) (hh := [(0, 64, 65, 20), (0, 64, 70, 39), (0, 64, 75, 15)]) (by decide) rfl ?_
  intro p e s m args below meth c_ s₁ B hml hv
  obtain ⟨rfl, hsz, hP, hK, hV⟩ := hv
  have hE : yEV0 s s.heap := hV.1
  have hNC : yNC s := hV.2.1
  have hx := B.exec
  have hb := B.bytes
  have hr := B.returns
  have hts := atoms_spec (ws := wsL_of) B.pre
  have hown : s.vm.findClass RL = some m.cls := findClass_of_methodNamed B.named
  have htab : c_.exceptionTable.toList = tableOf [(0, 64, 65, 20), (0, 64, 70, 39), (0, 64, 75, 15)] := vx_table (x := yL_of) B (hts (.codeWith yL_of cL_of 4 (some .int) [(0, 64, 65, 20), (0, 64, 70, 39), (0, 64, 75, 15)]) List.mem_cons_self)
  have hlocks := B.notSynchronized
  subst hsz
  have hD := hND.self (sz := s.heap.size)
  have hS : va_S (va_A (WS k h a c σ) s.heap.size) s.heap s.heap [] := va_S.rf
  have hP2 := hP
  have hl := lv_entry ([.ref h, .int x, .int 4]) (n := 4) (Nat.le_of_ble_eq_true rfl)
  rw [lg_entry_eq]
  generalize (lg_sl ([.ref h, .int x, .int 4]) ++ List.replicate (4 - (lg_sl ([.ref h, .int x, .int 4])).length) Slot.unset).toArray = ls at hl ⊢
  have hl : lv_has ls 4 [(0, .ref h), (1, .int x), (2, .int 4)] := hl
  refine lv_iload_n hx hb dL_of_0 rfl (lv_at hl 2 rfl) ?_
  refine lv_if_ne (tgt := 12) hx hb dL_of_1 (by decide) (fun _ => ?_) (fun c9 => absurd c9 (by decide))
  refine lv_iload_n hx hb dL_of_12 rfl (lv_at hl 2 rfl) ?_
  refine lv_iconst (v := 1) hx hb dL_of_13 (by decide) ?_
  refine lv_icmp_ne (tgt := 25) hx hb dL_of_14 (by decide) (fun _ => ?_) (fun c9 => absurd c9 (by decide))
  refine lv_iload_n hx hb dL_of_25 rfl (lv_at hl 2 rfl) ?_
  refine lv_iconst (v := 2) hx hb dL_of_26 (by decide) ?_
  refine lv_icmp_ne (tgt := 38) hx hb dL_of_27 (by decide) (fun _ => ?_) (fun c9 => absurd c9 (by decide))
  refine lv_iload_n hx hb dL_of_38 rfl (lv_at hl 2 rfl) ?_
  refine lv_iconst (v := 3) hx hb dL_of_39 (by decide) ?_
  refine lv_icmp_ne (tgt := 51) hx hb dL_of_40 (by decide) (fun _ => ?_) (fun c9 => absurd c9 (by decide))
  refine lv_aload_n hx hb dL_of_51 rfl (lv_at hl 0 rfl) ?_
  refine lv_iload_n hx hb dL_of_52 rfl (lv_at hl 1 rfl) ?_
  refine y_hcall (vx_runV (As := [.int x]) (rest := []) ⟨hx, hb, hml, hown, hts⟩ (c_X2_awaitNote l hl9 G k h a c σ.1 σ.2.1 σ.2.2.1 σ.2.2.2.1 σ.2.2.2.2.1 σ.2.2.2.2.2 s.heap.size x hND hI.1 (yJ_C hI) (yJ_w hI)) (cwV 1 hts gL_of_X2_awaitNote rfl rfl rfl (by decide +kernel) ⟨Nat.le_of_ble_eq_true rfl, Nat.le_of_ble_eq_true rfl⟩) ⟨yEs_blind, va_recv hK hP2 (ci := 4) (q0 := 0) rfl rfl, fun U hU hW => ⟨rfl, by rw [hU], by rw [hU]; exact hP2, va_K.moved hW.alike hK, yEV_at hE hU hW⟩⟩ rfl rfl hl.1 rfl (lv_room (Nat.le_of_ble_eq_true rfl)) dL_of_53 ⟨Nat.le_of_ble_eq_true rfl, Nat.le_of_ble_eq_true rfl⟩) hS (fun q _ h => h) (fun q h => h) ?_ (fun r u9 t9 H1 locs1 ht9 hp9 hB9 hz9 hk9 hS9 => ?_)
  · intro E ce q9 H1 locs1 hpx hk9 hS9 hce hcv hcl
    rcases hpx with ⟨rfl, hcd⟩ | ⟨rfl, hcd⟩
    · refine vx_catch (own := RL) (name := "java/lang/IndexOutOfBoundsException") (E := "java/lang/IndexOutOfBoundsException") (ce := ce) hown [] (⟨0, 64, 65, 20⟩ : ExceptionTableEntry) [(⟨0, 64, 70, 39⟩ : ExceptionTableEntry), (⟨0, 64, 75, 15⟩ : ExceptionTableEntry)] (by rw [htab]; rfl) (fun _ h => absurd h List.not_mem_nil) (by decide) (by decide) (hts (.classLink RL 20 "java/lang/IndexOutOfBoundsException") (by decide +kernel)) (va_Nw.use rfl (hE.1 (.castable "java/lang/IndexOutOfBoundsException" "java/lang/IndexOutOfBoundsException") (by decide +kernel))) hce hcv hcl ?_
      refine lv_astore_n (lv' := [(3, .ref q9), (0, .ref h), (1, .int x), (2, .int 4)]) hx hb dL_of_65 rfl hl (by decide) rfl (fun ls hl => ?_)
      refine lv_sipush (v := (-1001)) hx hb dL_of_66 (by decide) ?_
      have hold := o_awaitNote_k (show ¬ (o_awaitNote x σ.1 σ.2.1).1 = 0 by rw [hcd]; decide)
      have hPf : va_P G vwCl (WS k h a c (g_await x σ)) H1 := by
        have h9 := yKeep hP2 hk9
        have e9 : g_await x σ = σ := by show (_, _, _, _, _, _) = σ; simp only [hold]
        rw [e9]; exact h9
      exact W.iret (v := (-1001)) hx hb hr (fun τ hτ hW => ⟨⟨_, (), rfl, (er_c hcd (by decide) (by decide)), yPt hPf hτ⟩, hS9.F hτ⟩) hS9.2.2 dL_of_69
    · refine vx_catch (own := RL) (name := "java/lang/IllegalStateException") (E := "java/lang/IllegalStateException") (ce := ce) hown [(⟨0, 64, 65, 20⟩ : ExceptionTableEntry), (⟨0, 64, 70, 39⟩ : ExceptionTableEntry)] (⟨0, 64, 75, 15⟩ : ExceptionTableEntry) [] (by rw [htab]; rfl) (List.forall_mem_cons.mpr ⟨Or.inr ⟨by decide, "java/lang/IndexOutOfBoundsException", hts (.classLink RL 20 "java/lang/IndexOutOfBoundsException") (by decide +kernel), hNC ("java/lang/IllegalStateException", "java/lang/IndexOutOfBoundsException") (by decide +kernel)⟩, List.forall_mem_cons.mpr ⟨Or.inr ⟨by decide, "java/util/NoSuchElementException", hts (.classLink RL 39 "java/util/NoSuchElementException") (by decide +kernel), hNC ("java/lang/IllegalStateException", "java/util/NoSuchElementException") (by decide +kernel)⟩, fun _ h => absurd h List.not_mem_nil⟩⟩) (by decide) (by decide) (hts (.classLink RL 15 "java/lang/IllegalStateException") (by decide +kernel)) (va_Nw.use rfl (hE.1 (.castable "java/lang/IllegalStateException" "java/lang/IllegalStateException") (by decide +kernel))) hce hcv hcl ?_
      refine lv_astore_n (lv' := [(3, .ref q9), (0, .ref h), (1, .int x), (2, .int 4)]) hx hb dL_of_75 rfl hl (by decide) rfl (fun ls hl => ?_)
      refine lv_sipush (v := (-1002)) hx hb dL_of_76 (by decide) ?_
      have hold := o_awaitNote_k (show ¬ (o_awaitNote x σ.1 σ.2.1).1 = 0 by rw [hcd]; decide)
      have hPf : va_P G vwCl (WS k h a c (g_await x σ)) H1 := by
        have h9 := yKeep hP2 hk9
        have e9 : g_await x σ = σ := by show (_, _, _, _, _, _) = σ; simp only [hold]
        rw [e9]; exact h9
      exact W.iret (v := (-1002)) hx hb hr (fun τ hτ hW => ⟨⟨_, (), rfl, (er_c hcd (by decide) (by decide)), yPt hPf hτ⟩, hS9.F hτ⟩) hS9.2.2 dL_of_79
  · obtain ⟨hp8, hp9⟩ := hp9
    have hPf : va_P G vwCl (WS k h a c (g_await x σ)) H1 := by rw [← ht9]; exact hB9
    subst hp9
    refine lv_if_eq (tgt := 63) hx hb dL_of_56 (by decide) (fun c9 => ?_) (fun c9 => ?_)
    · skip
      refine lv_iconst (v := 0) hx hb dL_of_63 (by decide) ?_
      exact W.iret (v := 0) hx hb hr (fun τ hτ hW => ⟨⟨_, (), rfl, (by rw [show f_await x σ = er (o_awaitNote x σ.1 σ.2.1).1 (if (o_awaitNote x σ.1 σ.2.1).2.1 = 0 then 0 else 1) from rfl, er_0 hp8, if_pos c9]), yPt hPf hτ⟩, hS9.F hτ⟩) hS9.2.2 dL_of_64
    · skip
      refine lv_iconst (v := 1) hx hb dL_of_59 (by decide) ?_
      refine lv_goto (tgt := 64) hx hb dL_of_60 (by decide) ?_
      exact W.iret (v := 1) hx hb hr (fun τ hτ hW => ⟨⟨_, (), rfl, (by rw [show f_await x σ = er (o_awaitNote x σ.1 σ.2.1).1 (if (o_awaitNote x σ.1 σ.2.1).2.1 = 0 then 0 else 1) from rfl, er_0 hp8, if_neg c9]), yPt hPf hτ⟩, hS9.F hτ⟩) hS9.2.2 dL_of_64

set_option maxHeartbeats 4000000 in
set_option maxRecDepth 100000 in
theorem c_msg_0 (l : Launch) (hl9 : l.stackTraces = false) (G : va_G) (k : Nat → ClassId) (h : Nat) (a c : Nat → Nat) (σ : SX) (sz : Nat) (x : Int32) (hI : yIs σ) : Met l yL_message wsL_message ({ frames := 8, cells := 1, slots := 6, locals := 132 }) (va_Pc [.ref h, .int x, .int 0] (yL G (yT k) (WS k h a c σ) sz)) (va_Qi (fun (r : Int32) (_ : Unit) => r = f_msg 0 x σ) (fun _ _ => True) (fun q : Nat => sz ≤ q)) 1 6 (fun q : Nat => sz ≤ q) := by
  refine va_MetW (cc := cL_message) (maxL := 4) (ret := (some .int)) (hh := [(0, 49, 100, 20), (50, 55, 100, 20), (56, 61, 100, 20), (62, 67, 100, 20), (68, 73, 100, 20), (74, 87, 100, 20), (88, 93, 100, 20), (94, 99, 100, 20), (0, 49, 105, 15), (50, 55, 105, 15), (56, 61, 105, 15), (62, 67, 105, 15), (68, 73, 105, 15), (74, 87, 105, 15), (88, 93, 105, 15), (94, 99, 105, 15), (0, 49, 110, 39), (50, 55, 110, 39), (56, 61, 110, 39), (62, 67, 110, 39), (68, 73, 110, 39), (74, 87, 110, 39), (88, 93, 110, 39), (94, 99, 110, 39)]) (by decide) rfl ?_
  intro p e s m args below meth c_ s₁ B hml hv
  obtain ⟨rfl, hsz, hP, hK, hV⟩ := hv
  have hE : yEV0 s s.heap := hV.1
  have hNC : yNC s := hV.2.1
  have hx := B.exec
  have hb := B.bytes
  have hr := B.returns
  have hts := atoms_spec (ws := wsL_message) B.pre
  have hown : s.vm.findClass RL = some m.cls := findClass_of_methodNamed B.named
  have htab : c_.exceptionTable.toList = tableOf [(0, 49, 100, 20), (50, 55, 100, 20), (56, 61, 100, 20), (62, 67, 100, 20), (68, 73, 100, 20), (74, 87, 100, 20), (88, 93, 100, 20), (94, 99, 100, 20), (0, 49, 105, 15), (50, 55, 105, 15), (56, 61, 105, 15), (62, 67, 105, 15), (68, 73, 105, 15), (74, 87, 105, 15), (88, 93, 105, 15), (94, 99, 105, 15), (0, 49, 110, 39), (50, 55, 110, 39), (56, 61, 110, 39), (62, 67, 110, 39), (68, 73, 110, 39), (74, 87, 110, 39), (88, 93, 110, 39), (94, 99, 110, 39)] := vx_table (x := yL_message) B (hts (.codeWith yL_message cL_message 4 (some .int) [(0, 49, 100, 20), (50, 55, 100, 20), (56, 61, 100, 20), (62, 67, 100, 20), (68, 73, 100, 20), (74, 87, 100, 20), (88, 93, 100, 20), (94, 99, 100, 20), (0, 49, 105, 15), (50, 55, 105, 15), (56, 61, 105, 15), (62, 67, 105, 15), (68, 73, 105, 15), (74, 87, 105, 15), (88, 93, 105, 15), (94, 99, 105, 15), (0, 49, 110, 39), (50, 55, 110, 39), (56, 61, 110, 39), (62, 67, 110, 39), (68, 73, 110, 39), (74, 87, 110, 39), (88, 93, 110, 39), (94, 99, 110, 39)]) List.mem_cons_self)
  have hlocks := B.notSynchronized
  subst hsz
  have hS : va_S (fun q : Nat => s.heap.size ≤ q) s.heap s.heap [] := va_S.rf
  have hP2 := hP
  have hl := lv_entry ([.ref h, .int x, .int 0]) (n := 4) (Nat.le_of_ble_eq_true rfl)
  rw [lg_entry_eq]
  generalize (lg_sl ([.ref h, .int x, .int 0]) ++ List.replicate (4 - (lg_sl ([.ref h, .int x, .int 0])).length) Slot.unset).toArray = ls at hl ⊢
  have hl : lv_has ls 4 [(0, .ref h), (1, .int x), (2, .int 0)] := hl
  refine lv_iload_n hx hb dL_message_0 rfl (lv_at hl 2 rfl) ?_
  refine lv_tableIn (off := 43) (tgt := 44) hx hb dL_message_1 (by decide) (by decide) (by decide) (by decide) ?_
  refine lv_aload_n hx hb dL_message_44 rfl (lv_at hl 0 rfl) ?_
  refine lv_iload_n hx hb dL_message_45 rfl (lv_at hl 1 rfl) ?_
  refine y_hread (mk := Value.int) yQi (vx_runV (As := [.int x]) (rest := []) ⟨hx, hb, hml, hown, hts⟩ (c_X2_state l hl9 G k h a c σ.1 σ.2.1 σ.2.2.1 σ.2.2.2.1 σ.2.2.2.2.1 σ.2.2.2.2.2 x hI.2.1 (yJ_ch5 hI)) (cwV 1 hts gL_message_X2_state rfl rfl rfl (by decide +kernel) ⟨Nat.le_of_ble_eq_true rfl, Nat.le_of_ble_eq_true rfl⟩) ⟨yE_blind, va_recv hK hP2 (ci := 4) (q0 := 0) rfl rfl, fun U hU hW => ⟨rfl, by rw [hU]; exact hP2, va_K.moved hW.alike hK, yEV_at hE hU hW⟩⟩ rfl rfl hl.1 rfl (lv_room (Nat.le_of_ble_eq_true rfl)) dL_message_46 ⟨Nat.le_of_ble_eq_true rfl, Nat.le_of_ble_eq_true rfl⟩) hS ?_ (fun r hp9 => ?_)
  · intro E ce q9 H1 locs1 hpx hk9 hS9 hce hcv hcl
    rcases hpx with ⟨rfl, hcd⟩
    · refine vx_catch (own := RL) (name := "java/lang/IndexOutOfBoundsException") (E := "java/lang/IndexOutOfBoundsException") (ce := ce) hown [] (⟨0, 49, 100, 20⟩ : ExceptionTableEntry) [(⟨50, 55, 100, 20⟩ : ExceptionTableEntry), (⟨56, 61, 100, 20⟩ : ExceptionTableEntry), (⟨62, 67, 100, 20⟩ : ExceptionTableEntry), (⟨68, 73, 100, 20⟩ : ExceptionTableEntry), (⟨74, 87, 100, 20⟩ : ExceptionTableEntry), (⟨88, 93, 100, 20⟩ : ExceptionTableEntry), (⟨94, 99, 100, 20⟩ : ExceptionTableEntry), (⟨0, 49, 105, 15⟩ : ExceptionTableEntry), (⟨50, 55, 105, 15⟩ : ExceptionTableEntry), (⟨56, 61, 105, 15⟩ : ExceptionTableEntry), (⟨62, 67, 105, 15⟩ : ExceptionTableEntry), (⟨68, 73, 105, 15⟩ : ExceptionTableEntry), (⟨74, 87, 105, 15⟩ : ExceptionTableEntry), (⟨88, 93, 105, 15⟩ : ExceptionTableEntry), (⟨94, 99, 105, 15⟩ : ExceptionTableEntry), (⟨0, 49, 110, 39⟩ : ExceptionTableEntry), (⟨50, 55, 110, 39⟩ : ExceptionTableEntry), (⟨56, 61, 110, 39⟩ : ExceptionTableEntry), (⟨62, 67, 110, 39⟩ : ExceptionTableEntry), (⟨68, 73, 110, 39⟩ : ExceptionTableEntry), (⟨74, 87, 110, 39⟩ : ExceptionTableEntry), (⟨88, 93, 110, 39⟩ : ExceptionTableEntry), (⟨94, 99, 110, 39⟩ : ExceptionTableEntry)] (by rw [htab]; rfl) (fun _ h => absurd h List.not_mem_nil) (by decide) (by decide) (hts (.classLink RL 20 "java/lang/IndexOutOfBoundsException") (by decide +kernel)) (va_Nw.use rfl (hE.1 (.castable "java/lang/IndexOutOfBoundsException" "java/lang/IndexOutOfBoundsException") (by decide +kernel))) hce hcv hcl ?_
      refine lv_astore_n (lv' := [(3, .ref q9), (0, .ref h), (1, .int x), (2, .int 0)]) hx hb dL_message_100 rfl hl (by decide) rfl (fun ls hl => ?_)
      refine lv_sipush (v := (-1001)) hx hb dL_message_101 (by decide) ?_
      exact W.iret (v := (-1001)) hx hb hr (fun τ hτ hW => ⟨⟨_, (), rfl, (er_c hcd (by decide) (by decide)), trivial⟩, hS9.F hτ⟩) hS9.2.2 dL_message_104
  · obtain ⟨hp8, hp9⟩ := hp9
    subst hp9
    exact W.iret (v := ((o_row 5 32 x σ.2.2.1 σ.2.2.2.2.1).2)) hx hb hr (fun τ hτ hW => ⟨⟨_, (), rfl, (er_0 hp8).symm, trivial⟩, hS.F hτ⟩) hS.2.2 dL_message_49

set_option maxHeartbeats 4000000 in
set_option maxRecDepth 100000 in
theorem c_msg_1 (l : Launch) (hl9 : l.stackTraces = false) (G : va_G) (k : Nat → ClassId) (h : Nat) (a c : Nat → Nat) (σ : SX) (sz : Nat) (x : Int32) (hI : yIs σ) : Met l yL_message wsL_message ({ frames := 8, cells := 1, slots := 6, locals := 132 }) (va_Pc [.ref h, .int x, .int 1] (yL G (yT k) (WS k h a c σ) sz)) (va_Qi (fun (r : Int32) (_ : Unit) => r = f_msg 1 x σ) (fun _ _ => True) (fun q : Nat => sz ≤ q)) 1 6 (fun q : Nat => sz ≤ q) := by
  refine va_MetW (cc := cL_message) (maxL := 4) (ret := (some .int)) (hh := [(0, 49, 100, 20), (50, 55, 100, 20), (56, 61, 100, 20), (62, 67, 100, 20), (68, 73, 100, 20), (74, 87, 100, 20), (88, 93, 100, 20), (94, 99, 100, 20), (0, 49, 105, 15), (50, 55, 105, 15), (56, 61, 105, 15), (62, 67, 105, 15), (68, 73, 105, 15), (74, 87, 105, 15), (88, 93, 105, 15), (94, 99, 105, 15), (0, 49, 110, 39), (50, 55, 110, 39), (56, 61, 110, 39), (62, 67, 110, 39), (68, 73, 110, 39), (74, 87, 110, 39), (88, 93, 110, 39), (94, 99, 110, 39)]) (by decide) rfl ?_
  intro p e s m args below meth c_ s₁ B hml hv
  obtain ⟨rfl, hsz, hP, hK, hV⟩ := hv
  have hE : yEV0 s s.heap := hV.1
  have hNC : yNC s := hV.2.1
  have hx := B.exec
  have hb := B.bytes
  have hr := B.returns
  have hts := atoms_spec (ws := wsL_message) B.pre
  have hown : s.vm.findClass RL = some m.cls := findClass_of_methodNamed B.named
  have htab : c_.exceptionTable.toList = tableOf [(0, 49, 100, 20), (50, 55, 100, 20), (56, 61, 100, 20), (62, 67, 100, 20), (68, 73, 100, 20), (74, 87, 100, 20), (88, 93, 100, 20), (94, 99, 100, 20), (0, 49, 105, 15), (50, 55, 105, 15), (56, 61, 105, 15), (62, 67, 105, 15), (68, 73, 105, 15), (74, 87, 105, 15), (88, 93, 105, 15), (94, 99, 105, 15), (0, 49, 110, 39), (50, 55, 110, 39), (56, 61, 110, 39), (62, 67, 110, 39), (68, 73, 110, 39), (74, 87, 110, 39), (88, 93, 110, 39), (94, 99, 110, 39)] := vx_table (x := yL_message) B (hts (.codeWith yL_message cL_message 4 (some .int) [(0, 49, 100, 20), (50, 55, 100, 20), (56, 61, 100, 20), (62, 67, 100, 20), (68, 73, 100, 20), (74, 87, 100, 20), (88, 93, 100, 20), (94, 99, 100, 20), (0, 49, 105, 15), (50, 55, 105, 15), (56, 61, 105, 15), (62, 67, 105, 15), (68, 73, 105, 15), (74, 87, 105, 15), (88, 93, 105, 15), (94, 99, 105, 15), (0, 49, 110, 39), (50, 55, 110, 39), (56, 61, 110, 39), (62, 67, 110, 39), (68, 73, 110, 39), (74, 87, 110, 39), (88, 93, 110, 39), (94, 99, 110, 39)]) List.mem_cons_self)
  have hlocks := B.notSynchronized
  subst hsz
  have hS : va_S (fun q : Nat => s.heap.size ≤ q) s.heap s.heap [] := va_S.rf
  have hP2 := hP
  have hl := lv_entry ([.ref h, .int x, .int 1]) (n := 4) (Nat.le_of_ble_eq_true rfl)
  rw [lg_entry_eq]
  generalize (lg_sl ([.ref h, .int x, .int 1]) ++ List.replicate (4 - (lg_sl ([.ref h, .int x, .int 1])).length) Slot.unset).toArray = ls at hl ⊢
  have hl : lv_has ls 4 [(0, .ref h), (1, .int x), (2, .int 1)] := hl
  refine lv_iload_n hx hb dL_message_0 rfl (lv_at hl 2 rfl) ?_
  refine lv_tableIn (off := 49) (tgt := 50) hx hb dL_message_1 (by decide) (by decide) (by decide) (by decide) ?_
  refine lv_aload_n hx hb dL_message_50 rfl (lv_at hl 0 rfl) ?_
  refine lv_iload_n hx hb dL_message_51 rfl (lv_at hl 1 rfl) ?_
  refine y_hread (mk := Value.int) yQi (vx_runV (As := [.int x]) (rest := []) ⟨hx, hb, hml, hown, hts⟩ (c_X2_kind l hl9 G k h a c σ.1 σ.2.1 σ.2.2.1 σ.2.2.2.1 σ.2.2.2.2.1 σ.2.2.2.2.2 x hI.2.1 (yJ_ch2 hI)) (cwV 1 hts gL_message_X2_kind rfl rfl rfl (by decide +kernel) ⟨Nat.le_of_ble_eq_true rfl, Nat.le_of_ble_eq_true rfl⟩) ⟨yE_blind, va_recv hK hP2 (ci := 4) (q0 := 0) rfl rfl, fun U hU hW => ⟨rfl, by rw [hU]; exact hP2, va_K.moved hW.alike hK, yEV_at hE hU hW⟩⟩ rfl rfl hl.1 rfl (lv_room (Nat.le_of_ble_eq_true rfl)) dL_message_52 ⟨Nat.le_of_ble_eq_true rfl, Nat.le_of_ble_eq_true rfl⟩) hS ?_ (fun r hp9 => ?_)
  · intro E ce q9 H1 locs1 hpx hk9 hS9 hce hcv hcl
    rcases hpx with ⟨rfl, hcd⟩
    · refine vx_catch (own := RL) (name := "java/lang/IndexOutOfBoundsException") (E := "java/lang/IndexOutOfBoundsException") (ce := ce) hown [(⟨0, 49, 100, 20⟩ : ExceptionTableEntry)] (⟨50, 55, 100, 20⟩ : ExceptionTableEntry) [(⟨56, 61, 100, 20⟩ : ExceptionTableEntry), (⟨62, 67, 100, 20⟩ : ExceptionTableEntry), (⟨68, 73, 100, 20⟩ : ExceptionTableEntry), (⟨74, 87, 100, 20⟩ : ExceptionTableEntry), (⟨88, 93, 100, 20⟩ : ExceptionTableEntry), (⟨94, 99, 100, 20⟩ : ExceptionTableEntry), (⟨0, 49, 105, 15⟩ : ExceptionTableEntry), (⟨50, 55, 105, 15⟩ : ExceptionTableEntry), (⟨56, 61, 105, 15⟩ : ExceptionTableEntry), (⟨62, 67, 105, 15⟩ : ExceptionTableEntry), (⟨68, 73, 105, 15⟩ : ExceptionTableEntry), (⟨74, 87, 105, 15⟩ : ExceptionTableEntry), (⟨88, 93, 105, 15⟩ : ExceptionTableEntry), (⟨94, 99, 105, 15⟩ : ExceptionTableEntry), (⟨0, 49, 110, 39⟩ : ExceptionTableEntry), (⟨50, 55, 110, 39⟩ : ExceptionTableEntry), (⟨56, 61, 110, 39⟩ : ExceptionTableEntry), (⟨62, 67, 110, 39⟩ : ExceptionTableEntry), (⟨68, 73, 110, 39⟩ : ExceptionTableEntry), (⟨74, 87, 110, 39⟩ : ExceptionTableEntry), (⟨88, 93, 110, 39⟩ : ExceptionTableEntry), (⟨94, 99, 110, 39⟩ : ExceptionTableEntry)] (by rw [htab]; rfl) (List.forall_mem_cons.mpr ⟨Or.inl rfl, fun _ h => absurd h List.not_mem_nil⟩) (by decide) (by decide) (hts (.classLink RL 20 "java/lang/IndexOutOfBoundsException") (by decide +kernel)) (va_Nw.use rfl (hE.1 (.castable "java/lang/IndexOutOfBoundsException" "java/lang/IndexOutOfBoundsException") (by decide +kernel))) hce hcv hcl ?_
      refine lv_astore_n (lv' := [(3, .ref q9), (0, .ref h), (1, .int x), (2, .int 1)]) hx hb dL_message_100 rfl hl (by decide) rfl (fun ls hl => ?_)
      refine lv_sipush (v := (-1001)) hx hb dL_message_101 (by decide) ?_
      exact W.iret (v := (-1001)) hx hb hr (fun τ hτ hW => ⟨⟨_, (), rfl, (er_c hcd (by decide) (by decide)), trivial⟩, hS9.F hτ⟩) hS9.2.2 dL_message_104
  · obtain ⟨hp8, hp9⟩ := hp9
    subst hp9
    exact W.iret (v := ((o_row 2 32 x σ.2.2.1 σ.2.2.2.2.1).2)) hx hb hr (fun τ hτ hW => ⟨⟨_, (), rfl, (er_0 hp8).symm, trivial⟩, hS.F hτ⟩) hS.2.2 dL_message_55

set_option maxHeartbeats 4000000 in
set_option maxRecDepth 100000 in
theorem c_msg_2 (l : Launch) (hl9 : l.stackTraces = false) (G : va_G) (k : Nat → ClassId) (h : Nat) (a c : Nat → Nat) (σ : SX) (sz : Nat) (x : Int32) (hI : yIs σ) : Met l yL_message wsL_message ({ frames := 8, cells := 1, slots := 6, locals := 132 }) (va_Pc [.ref h, .int x, .int 2] (yL G (yT k) (WS k h a c σ) sz)) (va_Qi (fun (r : Int32) (_ : Unit) => r = f_msg 2 x σ) (fun _ _ => True) (fun q : Nat => sz ≤ q)) 1 6 (fun q : Nat => sz ≤ q) := by
  refine va_MetW (cc := cL_message) (maxL := 4) (ret := (some .int)) (hh := [(0, 49, 100, 20), (50, 55, 100, 20), (56, 61, 100, 20), (62, 67, 100, 20), (68, 73, 100, 20), (74, 87, 100, 20), (88, 93, 100, 20), (94, 99, 100, 20), (0, 49, 105, 15), (50, 55, 105, 15), (56, 61, 105, 15), (62, 67, 105, 15), (68, 73, 105, 15), (74, 87, 105, 15), (88, 93, 105, 15), (94, 99, 105, 15), (0, 49, 110, 39), (50, 55, 110, 39), (56, 61, 110, 39), (62, 67, 110, 39), (68, 73, 110, 39), (74, 87, 110, 39), (88, 93, 110, 39), (94, 99, 110, 39)]) (by decide) rfl ?_
  intro p e s m args below meth c_ s₁ B hml hv
  obtain ⟨rfl, hsz, hP, hK, hV⟩ := hv
  have hE : yEV0 s s.heap := hV.1
  have hNC : yNC s := hV.2.1
  have hx := B.exec
  have hb := B.bytes
  have hr := B.returns
  have hts := atoms_spec (ws := wsL_message) B.pre
  have hown : s.vm.findClass RL = some m.cls := findClass_of_methodNamed B.named
  have htab : c_.exceptionTable.toList = tableOf [(0, 49, 100, 20), (50, 55, 100, 20), (56, 61, 100, 20), (62, 67, 100, 20), (68, 73, 100, 20), (74, 87, 100, 20), (88, 93, 100, 20), (94, 99, 100, 20), (0, 49, 105, 15), (50, 55, 105, 15), (56, 61, 105, 15), (62, 67, 105, 15), (68, 73, 105, 15), (74, 87, 105, 15), (88, 93, 105, 15), (94, 99, 105, 15), (0, 49, 110, 39), (50, 55, 110, 39), (56, 61, 110, 39), (62, 67, 110, 39), (68, 73, 110, 39), (74, 87, 110, 39), (88, 93, 110, 39), (94, 99, 110, 39)] := vx_table (x := yL_message) B (hts (.codeWith yL_message cL_message 4 (some .int) [(0, 49, 100, 20), (50, 55, 100, 20), (56, 61, 100, 20), (62, 67, 100, 20), (68, 73, 100, 20), (74, 87, 100, 20), (88, 93, 100, 20), (94, 99, 100, 20), (0, 49, 105, 15), (50, 55, 105, 15), (56, 61, 105, 15), (62, 67, 105, 15), (68, 73, 105, 15), (74, 87, 105, 15), (88, 93, 105, 15), (94, 99, 105, 15), (0, 49, 110, 39), (50, 55, 110, 39), (56, 61, 110, 39), (62, 67, 110, 39), (68, 73, 110, 39), (74, 87, 110, 39), (88, 93, 110, 39), (94, 99, 110, 39)]) List.mem_cons_self)
  have hlocks := B.notSynchronized
  subst hsz
  have hS : va_S (fun q : Nat => s.heap.size ≤ q) s.heap s.heap [] := va_S.rf
  have hP2 := hP
  have hl := lv_entry ([.ref h, .int x, .int 2]) (n := 4) (Nat.le_of_ble_eq_true rfl)
  rw [lg_entry_eq]
  generalize (lg_sl ([.ref h, .int x, .int 2]) ++ List.replicate (4 - (lg_sl ([.ref h, .int x, .int 2])).length) Slot.unset).toArray = ls at hl ⊢
  have hl : lv_has ls 4 [(0, .ref h), (1, .int x), (2, .int 2)] := hl
  refine lv_iload_n hx hb dL_message_0 rfl (lv_at hl 2 rfl) ?_
  refine lv_tableIn (off := 55) (tgt := 56) hx hb dL_message_1 (by decide) (by decide) (by decide) (by decide) ?_
  refine lv_aload_n hx hb dL_message_56 rfl (lv_at hl 0 rfl) ?_
  refine lv_iload_n hx hb dL_message_57 rfl (lv_at hl 1 rfl) ?_
  refine y_hread (mk := Value.int) yQi (vx_runV (As := [.int x]) (rest := []) ⟨hx, hb, hml, hown, hts⟩ (c_X2_tries l hl9 G k h a c σ.1 σ.2.1 σ.2.2.1 σ.2.2.2.1 σ.2.2.2.2.1 σ.2.2.2.2.2 x hI.2.1) (cwV 1 hts gL_message_X2_tries rfl rfl rfl (by decide +kernel) ⟨Nat.le_of_ble_eq_true rfl, Nat.le_of_ble_eq_true rfl⟩) ⟨yE_blind, va_recv hK hP2 (ci := 4) (q0 := 0) rfl rfl, fun U hU hW => ⟨rfl, by rw [hU]; exact hP2, va_K.moved hW.alike hK, yEV_at hE hU hW⟩⟩ rfl rfl hl.1 rfl (lv_room (Nat.le_of_ble_eq_true rfl)) dL_message_58 ⟨Nat.le_of_ble_eq_true rfl, Nat.le_of_ble_eq_true rfl⟩) hS ?_ (fun r hp9 => ?_)
  · intro E ce q9 H1 locs1 hpx hk9 hS9 hce hcv hcl
    rcases hpx with ⟨rfl, hcd⟩
    · refine vx_catch (own := RL) (name := "java/lang/IndexOutOfBoundsException") (E := "java/lang/IndexOutOfBoundsException") (ce := ce) hown [(⟨0, 49, 100, 20⟩ : ExceptionTableEntry), (⟨50, 55, 100, 20⟩ : ExceptionTableEntry)] (⟨56, 61, 100, 20⟩ : ExceptionTableEntry) [(⟨62, 67, 100, 20⟩ : ExceptionTableEntry), (⟨68, 73, 100, 20⟩ : ExceptionTableEntry), (⟨74, 87, 100, 20⟩ : ExceptionTableEntry), (⟨88, 93, 100, 20⟩ : ExceptionTableEntry), (⟨94, 99, 100, 20⟩ : ExceptionTableEntry), (⟨0, 49, 105, 15⟩ : ExceptionTableEntry), (⟨50, 55, 105, 15⟩ : ExceptionTableEntry), (⟨56, 61, 105, 15⟩ : ExceptionTableEntry), (⟨62, 67, 105, 15⟩ : ExceptionTableEntry), (⟨68, 73, 105, 15⟩ : ExceptionTableEntry), (⟨74, 87, 105, 15⟩ : ExceptionTableEntry), (⟨88, 93, 105, 15⟩ : ExceptionTableEntry), (⟨94, 99, 105, 15⟩ : ExceptionTableEntry), (⟨0, 49, 110, 39⟩ : ExceptionTableEntry), (⟨50, 55, 110, 39⟩ : ExceptionTableEntry), (⟨56, 61, 110, 39⟩ : ExceptionTableEntry), (⟨62, 67, 110, 39⟩ : ExceptionTableEntry), (⟨68, 73, 110, 39⟩ : ExceptionTableEntry), (⟨74, 87, 110, 39⟩ : ExceptionTableEntry), (⟨88, 93, 110, 39⟩ : ExceptionTableEntry), (⟨94, 99, 110, 39⟩ : ExceptionTableEntry)] (by rw [htab]; rfl) (List.forall_mem_cons.mpr ⟨Or.inl rfl, List.forall_mem_cons.mpr ⟨Or.inl rfl, fun _ h => absurd h List.not_mem_nil⟩⟩) (by decide) (by decide) (hts (.classLink RL 20 "java/lang/IndexOutOfBoundsException") (by decide +kernel)) (va_Nw.use rfl (hE.1 (.castable "java/lang/IndexOutOfBoundsException" "java/lang/IndexOutOfBoundsException") (by decide +kernel))) hce hcv hcl ?_
      refine lv_astore_n (lv' := [(3, .ref q9), (0, .ref h), (1, .int x), (2, .int 2)]) hx hb dL_message_100 rfl hl (by decide) rfl (fun ls hl => ?_)
      refine lv_sipush (v := (-1001)) hx hb dL_message_101 (by decide) ?_
      exact W.iret (v := (-1001)) hx hb hr (fun τ hτ hW => ⟨⟨_, (), rfl, (er_c hcd (by decide) (by decide)), trivial⟩, hS9.F hτ⟩) hS9.2.2 dL_message_104
  · obtain ⟨hp8, hp9⟩ := hp9
    subst hp9
    exact W.iret (v := ((o_row 7 0 x σ.2.2.1 σ.2.2.2.2.1).2)) hx hb hr (fun τ hτ hW => ⟨⟨_, (), rfl, (er_0 hp8).symm, trivial⟩, hS.F hτ⟩) hS.2.2 dL_message_61

set_option maxHeartbeats 4000000 in
set_option maxRecDepth 100000 in
theorem c_msg_3 (l : Launch) (hl9 : l.stackTraces = false) (G : va_G) (k : Nat → ClassId) (h : Nat) (a c : Nat → Nat) (σ : SX) (sz : Nat) (x : Int32) (hI : yIs σ) : Met l yL_message wsL_message ({ frames := 8, cells := 2, slots := 12, locals := 133 }) (va_Pc [.ref h, .int x, .int 3] (yL G (yT k) (WS k h a c σ) sz)) (va_Qi (fun (r : Int32) (_ : Unit) => r = f_msg 3 x σ) (fun _ _ => True) (fun q : Nat => sz ≤ q)) 2 12 (fun q : Nat => sz ≤ q) := by
  refine va_MetW (cc := cL_message) (maxL := 4) (ret := (some .int)) (hh := [(0, 49, 100, 20), (50, 55, 100, 20), (56, 61, 100, 20), (62, 67, 100, 20), (68, 73, 100, 20), (74, 87, 100, 20), (88, 93, 100, 20), (94, 99, 100, 20), (0, 49, 105, 15), (50, 55, 105, 15), (56, 61, 105, 15), (62, 67, 105, 15), (68, 73, 105, 15), (74, 87, 105, 15), (88, 93, 105, 15), (94, 99, 105, 15), (0, 49, 110, 39), (50, 55, 110, 39), (56, 61, 110, 39), (62, 67, 110, 39), (68, 73, 110, 39), (74, 87, 110, 39), (88, 93, 110, 39), (94, 99, 110, 39)]) (by decide) rfl ?_
  intro p e s m args below meth c_ s₁ B hml hv
  obtain ⟨rfl, hsz, hP, hK, hV⟩ := hv
  have hE : yEV0 s s.heap := hV.1
  have hNC : yNC s := hV.2.1
  have hx := B.exec
  have hb := B.bytes
  have hr := B.returns
  have hts := atoms_spec (ws := wsL_message) B.pre
  have hown : s.vm.findClass RL = some m.cls := findClass_of_methodNamed B.named
  have htab : c_.exceptionTable.toList = tableOf [(0, 49, 100, 20), (50, 55, 100, 20), (56, 61, 100, 20), (62, 67, 100, 20), (68, 73, 100, 20), (74, 87, 100, 20), (88, 93, 100, 20), (94, 99, 100, 20), (0, 49, 105, 15), (50, 55, 105, 15), (56, 61, 105, 15), (62, 67, 105, 15), (68, 73, 105, 15), (74, 87, 105, 15), (88, 93, 105, 15), (94, 99, 105, 15), (0, 49, 110, 39), (50, 55, 110, 39), (56, 61, 110, 39), (62, 67, 110, 39), (68, 73, 110, 39), (74, 87, 110, 39), (88, 93, 110, 39), (94, 99, 110, 39)] := vx_table (x := yL_message) B (hts (.codeWith yL_message cL_message 4 (some .int) [(0, 49, 100, 20), (50, 55, 100, 20), (56, 61, 100, 20), (62, 67, 100, 20), (68, 73, 100, 20), (74, 87, 100, 20), (88, 93, 100, 20), (94, 99, 100, 20), (0, 49, 105, 15), (50, 55, 105, 15), (56, 61, 105, 15), (62, 67, 105, 15), (68, 73, 105, 15), (74, 87, 105, 15), (88, 93, 105, 15), (94, 99, 105, 15), (0, 49, 110, 39), (50, 55, 110, 39), (56, 61, 110, 39), (62, 67, 110, 39), (68, 73, 110, 39), (74, 87, 110, 39), (88, 93, 110, 39), (94, 99, 110, 39)]) List.mem_cons_self)
  have hlocks := B.notSynchronized
  subst hsz
  have hS : va_S (fun q : Nat => s.heap.size ≤ q) s.heap s.heap [] := va_S.rf
  have hP2 := hP
  have hl := lv_entry ([.ref h, .int x, .int 3]) (n := 4) (Nat.le_of_ble_eq_true rfl)
  rw [lg_entry_eq]
  generalize (lg_sl ([.ref h, .int x, .int 3]) ++ List.replicate (4 - (lg_sl ([.ref h, .int x, .int 3])).length) Slot.unset).toArray = ls at hl ⊢
  have hl : lv_has ls 4 [(0, .ref h), (1, .int x), (2, .int 3)] := hl
  refine lv_iload_n hx hb dL_message_0 rfl (lv_at hl 2 rfl) ?_
  refine lv_tableIn (off := 61) (tgt := 62) hx hb dL_message_1 (by decide) (by decide) (by decide) (by decide) ?_
  refine lv_aload_n hx hb dL_message_62 rfl (lv_at hl 0 rfl) ?_
  refine lv_iload_n hx hb dL_message_63 rfl (lv_at hl 1 rfl) ?_
  refine y_hread (mk := Value.int) yQi (vx_runV (As := [.int x]) (rest := []) ⟨hx, hb, hml, hown, hts⟩ (c_X2_readyAt l hl9 G k h a c σ.1 σ.2.1 σ.2.2.1 σ.2.2.2.1 σ.2.2.2.2.1 σ.2.2.2.2.2 x hI.2.1) (cwV 1 hts gL_message_X2_readyAt rfl rfl rfl (by decide +kernel) ⟨Nat.le_of_ble_eq_true rfl, Nat.le_of_ble_eq_true rfl⟩) ⟨yE_blind, va_recv hK hP2 (ci := 4) (q0 := 0) rfl rfl, fun U hU hW => ⟨rfl, by rw [hU]; exact hP2, va_K.moved hW.alike hK, yEV_at hE hU hW⟩⟩ rfl rfl hl.1 rfl (lv_room (Nat.le_of_ble_eq_true rfl)) dL_message_64 ⟨Nat.le_of_ble_eq_true rfl, Nat.le_of_ble_eq_true rfl⟩) hS ?_ (fun r hp9 => ?_)
  · intro E ce q9 H1 locs1 hpx hk9 hS9 hce hcv hcl
    rcases hpx with ⟨rfl, hcd⟩ | ⟨rfl, hcd⟩
    · refine vx_catch (own := RL) (name := "java/lang/IndexOutOfBoundsException") (E := "java/lang/IndexOutOfBoundsException") (ce := ce) hown [(⟨0, 49, 100, 20⟩ : ExceptionTableEntry), (⟨50, 55, 100, 20⟩ : ExceptionTableEntry), (⟨56, 61, 100, 20⟩ : ExceptionTableEntry)] (⟨62, 67, 100, 20⟩ : ExceptionTableEntry) [(⟨68, 73, 100, 20⟩ : ExceptionTableEntry), (⟨74, 87, 100, 20⟩ : ExceptionTableEntry), (⟨88, 93, 100, 20⟩ : ExceptionTableEntry), (⟨94, 99, 100, 20⟩ : ExceptionTableEntry), (⟨0, 49, 105, 15⟩ : ExceptionTableEntry), (⟨50, 55, 105, 15⟩ : ExceptionTableEntry), (⟨56, 61, 105, 15⟩ : ExceptionTableEntry), (⟨62, 67, 105, 15⟩ : ExceptionTableEntry), (⟨68, 73, 105, 15⟩ : ExceptionTableEntry), (⟨74, 87, 105, 15⟩ : ExceptionTableEntry), (⟨88, 93, 105, 15⟩ : ExceptionTableEntry), (⟨94, 99, 105, 15⟩ : ExceptionTableEntry), (⟨0, 49, 110, 39⟩ : ExceptionTableEntry), (⟨50, 55, 110, 39⟩ : ExceptionTableEntry), (⟨56, 61, 110, 39⟩ : ExceptionTableEntry), (⟨62, 67, 110, 39⟩ : ExceptionTableEntry), (⟨68, 73, 110, 39⟩ : ExceptionTableEntry), (⟨74, 87, 110, 39⟩ : ExceptionTableEntry), (⟨88, 93, 110, 39⟩ : ExceptionTableEntry), (⟨94, 99, 110, 39⟩ : ExceptionTableEntry)] (by rw [htab]; rfl) (List.forall_mem_cons.mpr ⟨Or.inl rfl, List.forall_mem_cons.mpr ⟨Or.inl rfl, List.forall_mem_cons.mpr ⟨Or.inl rfl, fun _ h => absurd h List.not_mem_nil⟩⟩⟩) (by decide) (by decide) (hts (.classLink RL 20 "java/lang/IndexOutOfBoundsException") (by decide +kernel)) (va_Nw.use rfl (hE.1 (.castable "java/lang/IndexOutOfBoundsException" "java/lang/IndexOutOfBoundsException") (by decide +kernel))) hce hcv hcl ?_
      refine lv_astore_n (lv' := [(3, .ref q9), (0, .ref h), (1, .int x), (2, .int 3)]) hx hb dL_message_100 rfl hl (by decide) rfl (fun ls hl => ?_)
      refine lv_sipush (v := (-1001)) hx hb dL_message_101 (by decide) ?_
      exact W.iret (v := (-1001)) hx hb hr (fun τ hτ hW => ⟨⟨_, (), rfl, (er_c hcd (by decide) (by decide)), trivial⟩, hS9.F hτ⟩) hS9.2.2 dL_message_104
    · refine vx_catch (own := RL) (name := "java/lang/IllegalStateException") (E := "java/lang/IllegalStateException") (ce := ce) hown [(⟨0, 49, 100, 20⟩ : ExceptionTableEntry), (⟨50, 55, 100, 20⟩ : ExceptionTableEntry), (⟨56, 61, 100, 20⟩ : ExceptionTableEntry), (⟨62, 67, 100, 20⟩ : ExceptionTableEntry), (⟨68, 73, 100, 20⟩ : ExceptionTableEntry), (⟨74, 87, 100, 20⟩ : ExceptionTableEntry), (⟨88, 93, 100, 20⟩ : ExceptionTableEntry), (⟨94, 99, 100, 20⟩ : ExceptionTableEntry), (⟨0, 49, 105, 15⟩ : ExceptionTableEntry), (⟨50, 55, 105, 15⟩ : ExceptionTableEntry), (⟨56, 61, 105, 15⟩ : ExceptionTableEntry)] (⟨62, 67, 105, 15⟩ : ExceptionTableEntry) [(⟨68, 73, 105, 15⟩ : ExceptionTableEntry), (⟨74, 87, 105, 15⟩ : ExceptionTableEntry), (⟨88, 93, 105, 15⟩ : ExceptionTableEntry), (⟨94, 99, 105, 15⟩ : ExceptionTableEntry), (⟨0, 49, 110, 39⟩ : ExceptionTableEntry), (⟨50, 55, 110, 39⟩ : ExceptionTableEntry), (⟨56, 61, 110, 39⟩ : ExceptionTableEntry), (⟨62, 67, 110, 39⟩ : ExceptionTableEntry), (⟨68, 73, 110, 39⟩ : ExceptionTableEntry), (⟨74, 87, 110, 39⟩ : ExceptionTableEntry), (⟨88, 93, 110, 39⟩ : ExceptionTableEntry), (⟨94, 99, 110, 39⟩ : ExceptionTableEntry)] (by rw [htab]; rfl) (List.forall_mem_cons.mpr ⟨Or.inl rfl, List.forall_mem_cons.mpr ⟨Or.inl rfl, List.forall_mem_cons.mpr ⟨Or.inl rfl, List.forall_mem_cons.mpr ⟨Or.inr ⟨by decide, "java/lang/IndexOutOfBoundsException", hts (.classLink RL 20 "java/lang/IndexOutOfBoundsException") (by decide +kernel), hNC ("java/lang/IllegalStateException", "java/lang/IndexOutOfBoundsException") (by decide +kernel)⟩, List.forall_mem_cons.mpr ⟨Or.inl rfl, List.forall_mem_cons.mpr ⟨Or.inl rfl, List.forall_mem_cons.mpr ⟨Or.inl rfl, List.forall_mem_cons.mpr ⟨Or.inl rfl, List.forall_mem_cons.mpr ⟨Or.inl rfl, List.forall_mem_cons.mpr ⟨Or.inl rfl, List.forall_mem_cons.mpr ⟨Or.inl rfl, fun _ h => absurd h List.not_mem_nil⟩⟩⟩⟩⟩⟩⟩⟩⟩⟩⟩) (by decide) (by decide) (hts (.classLink RL 15 "java/lang/IllegalStateException") (by decide +kernel)) (va_Nw.use rfl (hE.1 (.castable "java/lang/IllegalStateException" "java/lang/IllegalStateException") (by decide +kernel))) hce hcv hcl ?_
      refine lv_astore_n (lv' := [(3, .ref q9), (0, .ref h), (1, .int x), (2, .int 3)]) hx hb dL_message_105 rfl hl (by decide) rfl (fun ls hl => ?_)
      refine lv_sipush (v := (-1002)) hx hb dL_message_106 (by decide) ?_
      exact W.iret (v := (-1002)) hx hb hr (fun τ hτ hW => ⟨⟨_, (), rfl, (er_c hcd (by decide) (by decide)), trivial⟩, hS9.F hτ⟩) hS9.2.2 dL_message_109
  · obtain ⟨hp8, hp9⟩ := hp9
    subst hp9
    exact W.iret (v := ((o_rowIf 6 119 x σ.2.2.1 σ.2.2.2.2.1).2)) hx hb hr (fun τ hτ hW => ⟨⟨_, (), rfl, (er_0 hp8).symm, trivial⟩, hS.F hτ⟩) hS.2.2 dL_message_67

set_option maxHeartbeats 4000000 in
set_option maxRecDepth 100000 in
theorem c_msg_4 (l : Launch) (hl9 : l.stackTraces = false) (G : va_G) (k : Nat → ClassId) (h : Nat) (a c : Nat → Nat) (σ : SX) (sz : Nat) (x : Int32) (hI : yIs σ) : Met l yL_message wsL_message ({ frames := 8, cells := 2, slots := 12, locals := 132 }) (va_Pc [.ref h, .int x, .int 4] (yL G (yT k) (WS k h a c σ) sz)) (va_Qi (fun (r : Int32) (_ : Unit) => r = f_msg 4 x σ) (fun _ _ => True) (fun q : Nat => sz ≤ q)) 2 12 (fun q : Nat => sz ≤ q) := by
  refine va_MetW (cc := cL_message) (maxL := 4) (ret := (some .int)) (hh := [(0, 49, 100, 20), (50, 55, 100, 20), (56, 61, 100, 20), (62, 67, 100, 20), (68, 73, 100, 20), (74, 87, 100, 20), (88, 93, 100, 20), (94, 99, 100, 20), (0, 49, 105, 15), (50, 55, 105, 15), (56, 61, 105, 15), (62, 67, 105, 15), (68, 73, 105, 15), (74, 87, 105, 15), (88, 93, 105, 15), (94, 99, 105, 15), (0, 49, 110, 39), (50, 55, 110, 39), (56, 61, 110, 39), (62, 67, 110, 39), (68, 73, 110, 39), (74, 87, 110, 39), (88, 93, 110, 39), (94, 99, 110, 39)]) (by decide) rfl ?_
  intro p e s m args below meth c_ s₁ B hml hv
  obtain ⟨rfl, hsz, hP, hK, hV⟩ := hv
  have hE : yEV0 s s.heap := hV.1
  have hNC : yNC s := hV.2.1
  have hx := B.exec
  have hb := B.bytes
  have hr := B.returns
  have hts := atoms_spec (ws := wsL_message) B.pre
  have hown : s.vm.findClass RL = some m.cls := findClass_of_methodNamed B.named
  have htab : c_.exceptionTable.toList = tableOf [(0, 49, 100, 20), (50, 55, 100, 20), (56, 61, 100, 20), (62, 67, 100, 20), (68, 73, 100, 20), (74, 87, 100, 20), (88, 93, 100, 20), (94, 99, 100, 20), (0, 49, 105, 15), (50, 55, 105, 15), (56, 61, 105, 15), (62, 67, 105, 15), (68, 73, 105, 15), (74, 87, 105, 15), (88, 93, 105, 15), (94, 99, 105, 15), (0, 49, 110, 39), (50, 55, 110, 39), (56, 61, 110, 39), (62, 67, 110, 39), (68, 73, 110, 39), (74, 87, 110, 39), (88, 93, 110, 39), (94, 99, 110, 39)] := vx_table (x := yL_message) B (hts (.codeWith yL_message cL_message 4 (some .int) [(0, 49, 100, 20), (50, 55, 100, 20), (56, 61, 100, 20), (62, 67, 100, 20), (68, 73, 100, 20), (74, 87, 100, 20), (88, 93, 100, 20), (94, 99, 100, 20), (0, 49, 105, 15), (50, 55, 105, 15), (56, 61, 105, 15), (62, 67, 105, 15), (68, 73, 105, 15), (74, 87, 105, 15), (88, 93, 105, 15), (94, 99, 105, 15), (0, 49, 110, 39), (50, 55, 110, 39), (56, 61, 110, 39), (62, 67, 110, 39), (68, 73, 110, 39), (74, 87, 110, 39), (88, 93, 110, 39), (94, 99, 110, 39)]) List.mem_cons_self)
  have hlocks := B.notSynchronized
  subst hsz
  have hS : va_S (fun q : Nat => s.heap.size ≤ q) s.heap s.heap [] := va_S.rf
  have hP2 := hP
  have hl := lv_entry ([.ref h, .int x, .int 4]) (n := 4) (Nat.le_of_ble_eq_true rfl)
  rw [lg_entry_eq]
  generalize (lg_sl ([.ref h, .int x, .int 4]) ++ List.replicate (4 - (lg_sl ([.ref h, .int x, .int 4])).length) Slot.unset).toArray = ls at hl ⊢
  have hl : lv_has ls 4 [(0, .ref h), (1, .int x), (2, .int 4)] := hl
  refine lv_iload_n hx hb dL_message_0 rfl (lv_at hl 2 rfl) ?_
  refine lv_tableIn (off := 67) (tgt := 68) hx hb dL_message_1 (by decide) (by decide) (by decide) (by decide) ?_
  refine lv_aload_n hx hb dL_message_68 rfl (lv_at hl 0 rfl) ?_
  refine lv_iload_n hx hb dL_message_69 rfl (lv_at hl 1 rfl) ?_
  refine y_hread (mk := Value.int) yQi (vx_runV (As := [.int x]) (rest := []) ⟨hx, hb, hml, hown, hts⟩ (c_X2_clerk l hl9 G k h a c σ.1 σ.2.1 σ.2.2.1 σ.2.2.2.1 σ.2.2.2.2.1 σ.2.2.2.2.2 x hI.2.1) (cwV 1 hts gL_message_X2_clerk rfl rfl rfl (by decide +kernel) ⟨Nat.le_of_ble_eq_true rfl, Nat.le_of_ble_eq_true rfl⟩) ⟨yE_blind, va_recv hK hP2 (ci := 4) (q0 := 0) rfl rfl, fun U hU hW => ⟨rfl, by rw [hU]; exact hP2, va_K.moved hW.alike hK, yEV_at hE hU hW⟩⟩ rfl rfl hl.1 rfl (lv_room (Nat.le_of_ble_eq_true rfl)) dL_message_70 ⟨Nat.le_of_ble_eq_true rfl, Nat.le_of_ble_eq_true rfl⟩) hS ?_ (fun r hp9 => ?_)
  · intro E ce q9 H1 locs1 hpx hk9 hS9 hce hcv hcl
    rcases hpx with ⟨rfl, hcd⟩ | ⟨rfl, hcd⟩
    · refine vx_catch (own := RL) (name := "java/lang/IndexOutOfBoundsException") (E := "java/lang/IndexOutOfBoundsException") (ce := ce) hown [(⟨0, 49, 100, 20⟩ : ExceptionTableEntry), (⟨50, 55, 100, 20⟩ : ExceptionTableEntry), (⟨56, 61, 100, 20⟩ : ExceptionTableEntry), (⟨62, 67, 100, 20⟩ : ExceptionTableEntry)] (⟨68, 73, 100, 20⟩ : ExceptionTableEntry) [(⟨74, 87, 100, 20⟩ : ExceptionTableEntry), (⟨88, 93, 100, 20⟩ : ExceptionTableEntry), (⟨94, 99, 100, 20⟩ : ExceptionTableEntry), (⟨0, 49, 105, 15⟩ : ExceptionTableEntry), (⟨50, 55, 105, 15⟩ : ExceptionTableEntry), (⟨56, 61, 105, 15⟩ : ExceptionTableEntry), (⟨62, 67, 105, 15⟩ : ExceptionTableEntry), (⟨68, 73, 105, 15⟩ : ExceptionTableEntry), (⟨74, 87, 105, 15⟩ : ExceptionTableEntry), (⟨88, 93, 105, 15⟩ : ExceptionTableEntry), (⟨94, 99, 105, 15⟩ : ExceptionTableEntry), (⟨0, 49, 110, 39⟩ : ExceptionTableEntry), (⟨50, 55, 110, 39⟩ : ExceptionTableEntry), (⟨56, 61, 110, 39⟩ : ExceptionTableEntry), (⟨62, 67, 110, 39⟩ : ExceptionTableEntry), (⟨68, 73, 110, 39⟩ : ExceptionTableEntry), (⟨74, 87, 110, 39⟩ : ExceptionTableEntry), (⟨88, 93, 110, 39⟩ : ExceptionTableEntry), (⟨94, 99, 110, 39⟩ : ExceptionTableEntry)] (by rw [htab]; rfl) (List.forall_mem_cons.mpr ⟨Or.inl rfl, List.forall_mem_cons.mpr ⟨Or.inl rfl, List.forall_mem_cons.mpr ⟨Or.inl rfl, List.forall_mem_cons.mpr ⟨Or.inl rfl, fun _ h => absurd h List.not_mem_nil⟩⟩⟩⟩) (by decide) (by decide) (hts (.classLink RL 20 "java/lang/IndexOutOfBoundsException") (by decide +kernel)) (va_Nw.use rfl (hE.1 (.castable "java/lang/IndexOutOfBoundsException" "java/lang/IndexOutOfBoundsException") (by decide +kernel))) hce hcv hcl ?_
      refine lv_astore_n (lv' := [(3, .ref q9), (0, .ref h), (1, .int x), (2, .int 4)]) hx hb dL_message_100 rfl hl (by decide) rfl (fun ls hl => ?_)
      refine lv_sipush (v := (-1001)) hx hb dL_message_101 (by decide) ?_
      exact W.iret (v := (-1001)) hx hb hr (fun τ hτ hW => ⟨⟨_, (), rfl, (er_c hcd (by decide) (by decide)), trivial⟩, hS9.F hτ⟩) hS9.2.2 dL_message_104
    · refine vx_catch (own := RL) (name := "java/util/NoSuchElementException") (E := "java/util/NoSuchElementException") (ce := ce) hown [(⟨0, 49, 100, 20⟩ : ExceptionTableEntry), (⟨50, 55, 100, 20⟩ : ExceptionTableEntry), (⟨56, 61, 100, 20⟩ : ExceptionTableEntry), (⟨62, 67, 100, 20⟩ : ExceptionTableEntry), (⟨68, 73, 100, 20⟩ : ExceptionTableEntry), (⟨74, 87, 100, 20⟩ : ExceptionTableEntry), (⟨88, 93, 100, 20⟩ : ExceptionTableEntry), (⟨94, 99, 100, 20⟩ : ExceptionTableEntry), (⟨0, 49, 105, 15⟩ : ExceptionTableEntry), (⟨50, 55, 105, 15⟩ : ExceptionTableEntry), (⟨56, 61, 105, 15⟩ : ExceptionTableEntry), (⟨62, 67, 105, 15⟩ : ExceptionTableEntry), (⟨68, 73, 105, 15⟩ : ExceptionTableEntry), (⟨74, 87, 105, 15⟩ : ExceptionTableEntry), (⟨88, 93, 105, 15⟩ : ExceptionTableEntry), (⟨94, 99, 105, 15⟩ : ExceptionTableEntry), (⟨0, 49, 110, 39⟩ : ExceptionTableEntry), (⟨50, 55, 110, 39⟩ : ExceptionTableEntry), (⟨56, 61, 110, 39⟩ : ExceptionTableEntry), (⟨62, 67, 110, 39⟩ : ExceptionTableEntry)] (⟨68, 73, 110, 39⟩ : ExceptionTableEntry) [(⟨74, 87, 110, 39⟩ : ExceptionTableEntry), (⟨88, 93, 110, 39⟩ : ExceptionTableEntry), (⟨94, 99, 110, 39⟩ : ExceptionTableEntry)] (by rw [htab]; rfl) (List.forall_mem_cons.mpr ⟨Or.inl rfl, List.forall_mem_cons.mpr ⟨Or.inl rfl, List.forall_mem_cons.mpr ⟨Or.inl rfl, List.forall_mem_cons.mpr ⟨Or.inl rfl, List.forall_mem_cons.mpr ⟨Or.inr ⟨by decide, "java/lang/IndexOutOfBoundsException", hts (.classLink RL 20 "java/lang/IndexOutOfBoundsException") (by decide +kernel), hNC ("java/util/NoSuchElementException", "java/lang/IndexOutOfBoundsException") (by decide +kernel)⟩, List.forall_mem_cons.mpr ⟨Or.inl rfl, List.forall_mem_cons.mpr ⟨Or.inl rfl, List.forall_mem_cons.mpr ⟨Or.inl rfl, List.forall_mem_cons.mpr ⟨Or.inl rfl, List.forall_mem_cons.mpr ⟨Or.inl rfl, List.forall_mem_cons.mpr ⟨Or.inl rfl, List.forall_mem_cons.mpr ⟨Or.inl rfl, List.forall_mem_cons.mpr ⟨Or.inr ⟨by decide, "java/lang/IllegalStateException", hts (.classLink RL 15 "java/lang/IllegalStateException") (by decide +kernel), hNC ("java/util/NoSuchElementException", "java/lang/IllegalStateException") (by decide +kernel)⟩, List.forall_mem_cons.mpr ⟨Or.inl rfl, List.forall_mem_cons.mpr ⟨Or.inl rfl, List.forall_mem_cons.mpr ⟨Or.inl rfl, List.forall_mem_cons.mpr ⟨Or.inl rfl, List.forall_mem_cons.mpr ⟨Or.inl rfl, List.forall_mem_cons.mpr ⟨Or.inl rfl, List.forall_mem_cons.mpr ⟨Or.inl rfl, fun _ h => absurd h List.not_mem_nil⟩⟩⟩⟩⟩⟩⟩⟩⟩⟩⟩⟩⟩⟩⟩⟩⟩⟩⟩⟩) (by decide) (by decide) (hts (.classLink RL 39 "java/util/NoSuchElementException") (by decide +kernel)) (va_Nw.use rfl (hE.1 (.castable "java/util/NoSuchElementException" "java/util/NoSuchElementException") (by decide +kernel))) hce hcv hcl ?_
      refine lv_astore_n (lv' := [(3, .ref q9), (0, .ref h), (1, .int x), (2, .int 4)]) hx hb dL_message_110 rfl hl (by decide) rfl (fun ls hl => ?_)
      refine lv_sipush (v := (-1002)) hx hb dL_message_111 (by decide) ?_
      exact W.iret (v := (-1002)) hx hb hr (fun τ hτ hW => ⟨⟨_, (), rfl, (er_c hcd (by decide) (by decide)), trivial⟩, hS9.F hτ⟩) hS9.2.2 dL_message_114
  · obtain ⟨hp8, hp9⟩ := hp9
    subst hp9
    exact W.iret (v := ((o_rowIf 8 116 x σ.2.2.1 σ.2.2.2.2.1).2)) hx hb hr (fun τ hτ hW => ⟨⟨_, (), rfl, (er_0 hp8).symm, trivial⟩, hS.F hτ⟩) hS.2.2 dL_message_73
