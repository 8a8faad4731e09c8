set_option maxHeartbeats 4000000 in
set_option maxRecDepth 100000 in
theorem c_msg_5 (l : Launch) (hl9 : l.stackTraces = false) (G : va_G) (k : Nat → ClassId) (h : Nat) (a c : Nat → Nat) (σ : SX) (sz : Nat) (x : Int32) (hND : va_D (fun _ => True) (WS k h a c σ)) (hI : yIs σ) : Met l yL_message wsL_message ({ frames := 8, cells := 2, slots := 12, locals := 133 }) (va_Pc [.ref h, .int x, .int 5] (yL G (yT k) (WS k h a c σ) sz)) (va_Qi (fun (r : Int32) (_ : Unit) => r = f_fin x σ) (fun _ τ => va_P G vwCl (WS k h a c (g_fin x σ)) τ.heap) (va_A (WS k h a c σ) sz)) 2 12 (va_A (WS k h a c σ) sz) := by
  refine va_MetW (cc := cL_message) (maxL := 4) (ret := (some .int)) (hh := [(0, 49, 100, 20), (50, 55, 100, 20), (56, 61, 100, 20), (62, 67, 100, 20), (68, 73, 100, 20), (74, 87, 100, 20), (88, 93, 100, 20), (94, 99, 100, 20), (0, 49, 105, 15), (50, 55, 105, 15), (56, 61, 105, 15), (62, 67, 105, 15), (68, 73, 105, 15), (74, 87, 105, 15), (88, 93, 105, 15), (94, 99, 105, 15), (0, 49, 110, 39), (50, 55, 110, 39), (56, 61, 110, 39), (62, 67, 110, 39), (68, 73, 110, 39), (74, 87, 110, 39), (88, 93, 110, 39), (94, 99, 110, 39)]) (by decide) rfl ?_
  intro p e s m args below meth c_ s₁ B hml hv
  obtain ⟨rfl, hsz, hP, hK, hV⟩ := hv
  have hE : yEV0 s s.heap := hV.1
  have hNC : yNC s := hV.2.1
  have hx := B.exec
  have hb := B.bytes
  have hr := B.returns
  have hts := atoms_spec (ws := wsL_message) B.pre
  have hown : s.vm.findClass RL = some m.cls := findClass_of_methodNamed B.named
  have htab : c_.exceptionTable.toList = tableOf [(0, 49, 100, 20), (50, 55, 100, 20), (56, 61, 100, 20), (62, 67, 100, 20), (68, 73, 100, 20), (74, 87, 100, 20), (88, 93, 100, 20), (94, 99, 100, 20), (0, 49, 105, 15), (50, 55, 105, 15), (56, 61, 105, 15), (62, 67, 105, 15), (68, 73, 105, 15), (74, 87, 105, 15), (88, 93, 105, 15), (94, 99, 105, 15), (0, 49, 110, 39), (50, 55, 110, 39), (56, 61, 110, 39), (62, 67, 110, 39), (68, 73, 110, 39), (74, 87, 110, 39), (88, 93, 110, 39), (94, 99, 110, 39)] := vx_table (x := yL_message) B (hts (.codeWith yL_message cL_message 4 (some .int) [(0, 49, 100, 20), (50, 55, 100, 20), (56, 61, 100, 20), (62, 67, 100, 20), (68, 73, 100, 20), (74, 87, 100, 20), (88, 93, 100, 20), (94, 99, 100, 20), (0, 49, 105, 15), (50, 55, 105, 15), (56, 61, 105, 15), (62, 67, 105, 15), (68, 73, 105, 15), (74, 87, 105, 15), (88, 93, 105, 15), (94, 99, 105, 15), (0, 49, 110, 39), (50, 55, 110, 39), (56, 61, 110, 39), (62, 67, 110, 39), (68, 73, 110, 39), (74, 87, 110, 39), (88, 93, 110, 39), (94, 99, 110, 39)]) List.mem_cons_self)
  have hlocks := B.notSynchronized
  subst hsz
  have hD := hND.self (sz := s.heap.size)
  have hS : va_S (va_A (WS k h a c σ) s.heap.size) s.heap s.heap [] := va_S.rf
  have hP2 := hP
  have hl := lv_entry ([.ref h, .int x, .int 5]) (n := 4) (Nat.le_of_ble_eq_true rfl)
  rw [lg_entry_eq]
  generalize (lg_sl ([.ref h, .int x, .int 5]) ++ List.replicate (4 - (lg_sl ([.ref h, .int x, .int 5])).length) Slot.unset).toArray = ls at hl ⊢
  have hl : lv_has ls 4 [(0, .ref h), (1, .int x), (2, .int 5)] := hl
  refine lv_iload_n hx hb dL_message_0 rfl (lv_at hl 2 rfl) ?_
  refine lv_tableIn (off := 73) (tgt := 74) hx hb dL_message_1 (by decide) (by decide) (by decide) (by decide) ?_
  refine lv_aload_n hx hb dL_message_74 rfl (lv_at hl 0 rfl) ?_
  refine lv_iload_n hx hb dL_message_75 rfl (lv_at hl 1 rfl) ?_
  refine y_hcall (vx_runV (As := [.int x]) (rest := []) ⟨hx, hb, hml, hown, hts⟩ (c_X2_finish l hl9 G k h a c σ.1 σ.2.1 σ.2.2.1 σ.2.2.2.1 σ.2.2.2.2.1 σ.2.2.2.2.2 s.heap.size x hND hI.1 hI.2.1 (yJ_cs hI) (yJ_w hI) (yJ_lt hI)) (cwV 1 hts gL_message_X2_finish rfl rfl rfl (by decide +kernel) ⟨Nat.le_of_ble_eq_true rfl, Nat.le_of_ble_eq_true rfl⟩) ⟨yEs_blind, va_recv hK hP2 (ci := 4) (q0 := 0) rfl rfl, fun U hU hW => ⟨rfl, by rw [hU], by rw [hU]; exact hP2, va_K.moved hW.alike hK, yEV_at hE hU hW⟩⟩ rfl rfl hl.1 rfl (lv_room (Nat.le_of_ble_eq_true rfl)) dL_message_76 ⟨Nat.le_of_ble_eq_true rfl, Nat.le_of_ble_eq_true rfl⟩) hS (fun q _ h => h) (fun q h => h) ?_ (fun r u9 t9 H1 locs1 ht9 hp9 hB9 hz9 hk9 hS9 => ?_)
  · intro E ce q9 H1 locs1 hpx hk9 hS9 hce hcv hcl
    rcases hpx with ⟨rfl, hcd⟩ | ⟨rfl, hcd⟩
    · refine vx_catch (own := RL) (name := "java/lang/IndexOutOfBoundsException") (E := "java/lang/IndexOutOfBoundsException") (ce := ce) hown [(⟨0, 49, 100, 20⟩ : ExceptionTableEntry), (⟨50, 55, 100, 20⟩ : ExceptionTableEntry), (⟨56, 61, 100, 20⟩ : ExceptionTableEntry), (⟨62, 67, 100, 20⟩ : ExceptionTableEntry), (⟨68, 73, 100, 20⟩ : ExceptionTableEntry)] (⟨74, 87, 100, 20⟩ : ExceptionTableEntry) [(⟨88, 93, 100, 20⟩ : ExceptionTableEntry), (⟨94, 99, 100, 20⟩ : ExceptionTableEntry), (⟨0, 49, 105, 15⟩ : ExceptionTableEntry), (⟨50, 55, 105, 15⟩ : ExceptionTableEntry), (⟨56, 61, 105, 15⟩ : ExceptionTableEntry), (⟨62, 67, 105, 15⟩ : ExceptionTableEntry), (⟨68, 73, 105, 15⟩ : ExceptionTableEntry), (⟨74, 87, 105, 15⟩ : ExceptionTableEntry), (⟨88, 93, 105, 15⟩ : ExceptionTableEntry), (⟨94, 99, 105, 15⟩ : ExceptionTableEntry), (⟨0, 49, 110, 39⟩ : ExceptionTableEntry), (⟨50, 55, 110, 39⟩ : ExceptionTableEntry), (⟨56, 61, 110, 39⟩ : ExceptionTableEntry), (⟨62, 67, 110, 39⟩ : ExceptionTableEntry), (⟨68, 73, 110, 39⟩ : ExceptionTableEntry), (⟨74, 87, 110, 39⟩ : ExceptionTableEntry), (⟨88, 93, 110, 39⟩ : ExceptionTableEntry), (⟨94, 99, 110, 39⟩ : ExceptionTableEntry)] (by rw [htab]; rfl) (List.forall_mem_cons.mpr ⟨Or.inl rfl, List.forall_mem_cons.mpr ⟨Or.inl rfl, List.forall_mem_cons.mpr ⟨Or.inl rfl, List.forall_mem_cons.mpr ⟨Or.inl rfl, List.forall_mem_cons.mpr ⟨Or.inl rfl, fun _ h => absurd h List.not_mem_nil⟩⟩⟩⟩⟩) (by decide) (by decide) (hts (.classLink RL 20 "java/lang/IndexOutOfBoundsException") (by decide +kernel)) (va_Nw.use rfl (hE.1 (.castable "java/lang/IndexOutOfBoundsException" "java/lang/IndexOutOfBoundsException") (by decide +kernel))) hce hcv hcl ?_
      refine lv_astore_n (lv' := [(3, .ref q9), (0, .ref h), (1, .int x), (2, .int 5)]) hx hb dL_message_100 rfl hl (by decide) rfl (fun ls hl => ?_)
      refine lv_sipush (v := (-1001)) hx hb dL_message_101 (by decide) ?_
      have hold := o_finishC_k (show ¬ (o_finishC x σ.1 σ.2.2.1 σ.2.2.2.1 σ.2.2.2.2.1).1 = 0 by rw [hcd]; decide)
      have hPf : va_P G vwCl (WS k h a c (g_fin x σ)) H1 := by
        have h9 := yKeep hP2 hk9
        have e9 : g_fin x σ = σ := by show (_, _, _, _, _, _) = σ; simp only [hold]
        rw [e9]; exact h9
      exact W.iret (v := (-1001)) hx hb hr (fun τ hτ hW => ⟨⟨_, (), rfl, (er_c hcd (by decide) (by decide)), yPt hPf hτ⟩, hS9.F hτ⟩) hS9.2.2 dL_message_104
    · refine vx_catch (own := RL) (name := "java/lang/IllegalStateException") (E := "java/lang/IllegalStateException") (ce := ce) hown [(⟨0, 49, 100, 20⟩ : ExceptionTableEntry), (⟨50, 55, 100, 20⟩ : ExceptionTableEntry), (⟨56, 61, 100, 20⟩ : ExceptionTableEntry), (⟨62, 67, 100, 20⟩ : ExceptionTableEntry), (⟨68, 73, 100, 20⟩ : ExceptionTableEntry), (⟨74, 87, 100, 20⟩ : ExceptionTableEntry), (⟨88, 93, 100, 20⟩ : ExceptionTableEntry), (⟨94, 99, 100, 20⟩ : ExceptionTableEntry), (⟨0, 49, 105, 15⟩ : ExceptionTableEntry), (⟨50, 55, 105, 15⟩ : ExceptionTableEntry), (⟨56, 61, 105, 15⟩ : ExceptionTableEntry), (⟨62, 67, 105, 15⟩ : ExceptionTableEntry), (⟨68, 73, 105, 15⟩ : ExceptionTableEntry)] (⟨74, 87, 105, 15⟩ : ExceptionTableEntry) [(⟨88, 93, 105, 15⟩ : ExceptionTableEntry), (⟨94, 99, 105, 15⟩ : ExceptionTableEntry), (⟨0, 49, 110, 39⟩ : ExceptionTableEntry), (⟨50, 55, 110, 39⟩ : ExceptionTableEntry), (⟨56, 61, 110, 39⟩ : ExceptionTableEntry), (⟨62, 67, 110, 39⟩ : ExceptionTableEntry), (⟨68, 73, 110, 39⟩ : ExceptionTableEntry), (⟨74, 87, 110, 39⟩ : ExceptionTableEntry), (⟨88, 93, 110, 39⟩ : ExceptionTableEntry), (⟨94, 99, 110, 39⟩ : ExceptionTableEntry)] (by rw [htab]; rfl) (List.forall_mem_cons.mpr ⟨Or.inl rfl, List.forall_mem_cons.mpr ⟨Or.inl rfl, List.forall_mem_cons.mpr ⟨Or.inl rfl, List.forall_mem_cons.mpr ⟨Or.inl rfl, List.forall_mem_cons.mpr ⟨Or.inl rfl, List.forall_mem_cons.mpr ⟨Or.inr ⟨by decide, "java/lang/IndexOutOfBoundsException", hts (.classLink RL 20 "java/lang/IndexOutOfBoundsException") (by decide +kernel), hNC ("java/lang/IllegalStateException", "java/lang/IndexOutOfBoundsException") (by decide +kernel)⟩, List.forall_mem_cons.mpr ⟨Or.inl rfl, List.forall_mem_cons.mpr ⟨Or.inl rfl, List.forall_mem_cons.mpr ⟨Or.inl rfl, List.forall_mem_cons.mpr ⟨Or.inl rfl, List.forall_mem_cons.mpr ⟨Or.inl rfl, List.forall_mem_cons.mpr ⟨Or.inl rfl, List.forall_mem_cons.mpr ⟨Or.inl rfl, fun _ h => absurd h List.not_mem_nil⟩⟩⟩⟩⟩⟩⟩⟩⟩⟩⟩⟩⟩) (by decide) (by decide) (hts (.classLink RL 15 "java/lang/IllegalStateException") (by decide +kernel)) (va_Nw.use rfl (hE.1 (.castable "java/lang/IllegalStateException" "java/lang/IllegalStateException") (by decide +kernel))) hce hcv hcl ?_
      refine lv_astore_n (lv' := [(3, .ref q9), (0, .ref h), (1, .int x), (2, .int 5)]) hx hb dL_message_105 rfl hl (by decide) rfl (fun ls hl => ?_)
      refine lv_sipush (v := (-1002)) hx hb dL_message_106 (by decide) ?_
      have hold := o_finishC_k (show ¬ (o_finishC x σ.1 σ.2.2.1 σ.2.2.2.1 σ.2.2.2.2.1).1 = 0 by rw [hcd]; decide)
      have hPf : va_P G vwCl (WS k h a c (g_fin x σ)) H1 := by
        have h9 := yKeep hP2 hk9
        have e9 : g_fin x σ = σ := by show (_, _, _, _, _, _) = σ; simp only [hold]
        rw [e9]; exact h9
      exact W.iret (v := (-1002)) hx hb hr (fun τ hτ hW => ⟨⟨_, (), rfl, (er_c hcd (by decide) (by decide)), yPt hPf hτ⟩, hS9.F hτ⟩) hS9.2.2 dL_message_109
  · obtain ⟨hp8, hp9⟩ := hp9
    have hPf : va_P G vwCl (WS k h a c (g_fin x σ)) H1 := by rw [← ht9]; exact hB9
    subst hp9
    refine lv_if_eq (tgt := 86) hx hb dL_message_79 (by decide) (fun c9 => ?_) (fun c9 => ?_)
    · skip
      refine lv_iconst (v := 0) hx hb dL_message_86 (by decide) ?_
      exact W.iret (v := 0) hx hb hr (fun τ hτ hW => ⟨⟨_, (), rfl, (by rw [show f_fin x σ = er (o_finishC x σ.1 σ.2.2.1 σ.2.2.2.1 σ.2.2.2.2.1).1 (if (o_finishC x σ.1 σ.2.2.1 σ.2.2.2.1 σ.2.2.2.2.1).2.1 = 0 then 0 else 1) from rfl, er_0 hp8, if_pos c9]), yPt hPf hτ⟩, hS9.F hτ⟩) hS9.2.2 dL_message_87
    · skip
      refine lv_iconst (v := 1) hx hb dL_message_82 (by decide) ?_
      refine lv_goto (tgt := 87) hx hb dL_message_83 (by decide) ?_
      exact W.iret (v := 1) hx hb hr (fun τ hτ hW => ⟨⟨_, (), rfl, (by rw [show f_fin x σ = er (o_finishC x σ.1 σ.2.2.1 σ.2.2.2.1 σ.2.2.2.2.1).1 (if (o_finishC x σ.1 σ.2.2.1 σ.2.2.2.1 σ.2.2.2.2.1).2.1 = 0 then 0 else 1) from rfl, er_0 hp8, if_neg c9]), yPt hPf hτ⟩, hS9.F hτ⟩) hS9.2.2 dL_message_87

set_option maxHeartbeats 4000000 in
set_option maxRecDepth 100000 in
theorem c_msg_6 (l : Launch) (hl9 : l.stackTraces = false) (G : va_G) (k : Nat → ClassId) (h : Nat) (a c : Nat → Nat) (σ : SX) (sz : Nat) (x : Int32) (hND : va_D (fun _ => True) (WS k h a c σ)) (hI : yIs σ) : Met l yL_message wsL_message ({ frames := 8, cells := 2, slots := 12, locals := 133 }) (va_Pc [.ref h, .int x, .int 6] (yL G (yT k) (WS k h a c σ) sz)) (va_Qi (fun (r : Int32) (_ : Unit) => r = f_hb x σ) (fun _ τ => va_P G vwCl (WS k h a c (g_hb x σ)) τ.heap) (va_A (WS k h a c σ) sz)) 2 12 (va_A (WS k h a c σ) sz) := by
  refine va_MetW (cc := cL_message) (maxL := 4) (ret := (some .int)) (hh := [(0, 49, 100, 20), (50, 55, 100, 20), (56, 61, 100, 20), (62, 67, 100, 20), (68, 73, 100, 20), (74, 87, 100, 20), (88, 93, 100, 20), (94, 99, 100, 20), (0, 49, 105, 15), (50, 55, 105, 15), (56, 61, 105, 15), (62, 67, 105, 15), (68, 73, 105, 15), (74, 87, 105, 15), (88, 93, 105, 15), (94, 99, 105, 15), (0, 49, 110, 39), (50, 55, 110, 39), (56, 61, 110, 39), (62, 67, 110, 39), (68, 73, 110, 39), (74, 87, 110, 39), (88, 93, 110, 39), (94, 99, 110, 39)]) (by decide) rfl ?_
  intro p e s m args below meth c_ s₁ B hml hv
  obtain ⟨rfl, hsz, hP, hK, hV⟩ := hv
  have hE : yEV0 s s.heap := hV.1
  have hNC : yNC s := hV.2.1
  have hx := B.exec
  have hb := B.bytes
  have hr := B.returns
  have hts := atoms_spec (ws := wsL_message) B.pre
  have hown : s.vm.findClass RL = some m.cls := findClass_of_methodNamed B.named
  have htab : c_.exceptionTable.toList = tableOf [(0, 49, 100, 20), (50, 55, 100, 20), (56, 61, 100, 20), (62, 67, 100, 20), (68, 73, 100, 20), (74, 87, 100, 20), (88, 93, 100, 20), (94, 99, 100, 20), (0, 49, 105, 15), (50, 55, 105, 15), (56, 61, 105, 15), (62, 67, 105, 15), (68, 73, 105, 15), (74, 87, 105, 15), (88, 93, 105, 15), (94, 99, 105, 15), (0, 49, 110, 39), (50, 55, 110, 39), (56, 61, 110, 39), (62, 67, 110, 39), (68, 73, 110, 39), (74, 87, 110, 39), (88, 93, 110, 39), (94, 99, 110, 39)] := vx_table (x := yL_message) B (hts (.codeWith yL_message cL_message 4 (some .int) [(0, 49, 100, 20), (50, 55, 100, 20), (56, 61, 100, 20), (62, 67, 100, 20), (68, 73, 100, 20), (74, 87, 100, 20), (88, 93, 100, 20), (94, 99, 100, 20), (0, 49, 105, 15), (50, 55, 105, 15), (56, 61, 105, 15), (62, 67, 105, 15), (68, 73, 105, 15), (74, 87, 105, 15), (88, 93, 105, 15), (94, 99, 105, 15), (0, 49, 110, 39), (50, 55, 110, 39), (56, 61, 110, 39), (62, 67, 110, 39), (68, 73, 110, 39), (74, 87, 110, 39), (88, 93, 110, 39), (94, 99, 110, 39)]) List.mem_cons_self)
  have hlocks := B.notSynchronized
  subst hsz
  have hD := hND.self (sz := s.heap.size)
  have hS : va_S (va_A (WS k h a c σ) s.heap.size) s.heap s.heap [] := va_S.rf
  have hP2 := hP
  have hl := lv_entry ([.ref h, .int x, .int 6]) (n := 4) (Nat.le_of_ble_eq_true rfl)
  rw [lg_entry_eq]
  generalize (lg_sl ([.ref h, .int x, .int 6]) ++ List.replicate (4 - (lg_sl ([.ref h, .int x, .int 6])).length) Slot.unset).toArray = ls at hl ⊢
  have hl : lv_has ls 4 [(0, .ref h), (1, .int x), (2, .int 6)] := hl
  refine lv_iload_n hx hb dL_message_0 rfl (lv_at hl 2 rfl) ?_
  refine lv_tableIn (off := 87) (tgt := 88) hx hb dL_message_1 (by decide) (by decide) (by decide) (by decide) ?_
  refine lv_aload_n hx hb dL_message_88 rfl (lv_at hl 0 rfl) ?_
  refine lv_iload_n hx hb dL_message_89 rfl (lv_at hl 1 rfl) ?_
  refine y_hcall (vx_runV (As := [.int x]) (rest := []) ⟨hx, hb, hml, hown, hts⟩ (c_X2_handBack l hl9 G k h a c σ.1 σ.2.1 σ.2.2.1 σ.2.2.2.1 σ.2.2.2.2.1 σ.2.2.2.2.2 s.heap.size x hND hI.2.1) (cwV 1 hts gL_message_X2_handBack rfl rfl rfl (by decide +kernel) ⟨Nat.le_of_ble_eq_true rfl, Nat.le_of_ble_eq_true rfl⟩) ⟨yEs_blind, va_recv hK hP2 (ci := 4) (q0 := 0) rfl rfl, fun U hU hW => ⟨rfl, by rw [hU], by rw [hU]; exact hP2, va_K.moved hW.alike hK, yEV_at hE hU hW⟩⟩ rfl rfl hl.1 rfl (lv_room (Nat.le_of_ble_eq_true rfl)) dL_message_90 ⟨Nat.le_of_ble_eq_true rfl, Nat.le_of_ble_eq_true rfl⟩) hS (fun q _ h => h) (fun q h => h) ?_ (fun r u9 t9 H1 locs1 ht9 hp9 hB9 hz9 hk9 hS9 => ?_)
  · intro E ce q9 H1 locs1 hpx hk9 hS9 hce hcv hcl
    rcases hpx with ⟨rfl, hcd⟩ | ⟨rfl, hcd⟩
    · refine vx_catch (own := RL) (name := "java/lang/IndexOutOfBoundsException") (E := "java/lang/IndexOutOfBoundsException") (ce := ce) hown [(⟨0, 49, 100, 20⟩ : ExceptionTableEntry), (⟨50, 55, 100, 20⟩ : ExceptionTableEntry), (⟨56, 61, 100, 20⟩ : ExceptionTableEntry), (⟨62, 67, 100, 20⟩ : ExceptionTableEntry), (⟨68, 73, 100, 20⟩ : ExceptionTableEntry), (⟨74, 87, 100, 20⟩ : ExceptionTableEntry)] (⟨88, 93, 100, 20⟩ : ExceptionTableEntry) [(⟨94, 99, 100, 20⟩ : ExceptionTableEntry), (⟨0, 49, 105, 15⟩ : ExceptionTableEntry), (⟨50, 55, 105, 15⟩ : ExceptionTableEntry), (⟨56, 61, 105, 15⟩ : ExceptionTableEntry), (⟨62, 67, 105, 15⟩ : ExceptionTableEntry), (⟨68, 73, 105, 15⟩ : ExceptionTableEntry), (⟨74, 87, 105, 15⟩ : ExceptionTableEntry), (⟨88, 93, 105, 15⟩ : ExceptionTableEntry), (⟨94, 99, 105, 15⟩ : ExceptionTableEntry), (⟨0, 49, 110, 39⟩ : ExceptionTableEntry), (⟨50, 55, 110, 39⟩ : ExceptionTableEntry), (⟨56, 61, 110, 39⟩ : ExceptionTableEntry), (⟨62, 67, 110, 39⟩ : ExceptionTableEntry), (⟨68, 73, 110, 39⟩ : ExceptionTableEntry), (⟨74, 87, 110, 39⟩ : ExceptionTableEntry), (⟨88, 93, 110, 39⟩ : ExceptionTableEntry), (⟨94, 99, 110, 39⟩ : ExceptionTableEntry)] (by rw [htab]; rfl) (List.forall_mem_cons.mpr ⟨Or.inl rfl, List.forall_mem_cons.mpr ⟨Or.inl rfl, List.forall_mem_cons.mpr ⟨Or.inl rfl, List.forall_mem_cons.mpr ⟨Or.inl rfl, List.forall_mem_cons.mpr ⟨Or.inl rfl, List.forall_mem_cons.mpr ⟨Or.inl rfl, fun _ h => absurd h List.not_mem_nil⟩⟩⟩⟩⟩⟩) (by decide) (by decide) (hts (.classLink RL 20 "java/lang/IndexOutOfBoundsException") (by decide +kernel)) (va_Nw.use rfl (hE.1 (.castable "java/lang/IndexOutOfBoundsException" "java/lang/IndexOutOfBoundsException") (by decide +kernel))) hce hcv hcl ?_
      refine lv_astore_n (lv' := [(3, .ref q9), (0, .ref h), (1, .int x), (2, .int 6)]) hx hb dL_message_100 rfl hl (by decide) rfl (fun ls hl => ?_)
      refine lv_sipush (v := (-1001)) hx hb dL_message_101 (by decide) ?_
      have hold := o_handBackC_k (show ¬ (o_handBackC x σ.2.2.1 σ.2.2.2.2.1 σ.2.2.2.2.2).1 = 0 by rw [hcd]; decide)
      have hPf : va_P G vwCl (WS k h a c (g_hb x σ)) H1 := by
        have h9 := yKeep hP2 hk9
        have e9 : g_hb x σ = σ := by show (_, _, _, _, _, _) = σ; simp only [hold]
        rw [e9]; exact h9
      exact W.iret (v := (-1001)) hx hb hr (fun τ hτ hW => ⟨⟨_, (), rfl, (er_c hcd (by decide) (by decide)), yPt hPf hτ⟩, hS9.F hτ⟩) hS9.2.2 dL_message_104
    · refine vx_catch (own := RL) (name := "java/lang/IllegalStateException") (E := "java/lang/IllegalStateException") (ce := ce) hown [(⟨0, 49, 100, 20⟩ : ExceptionTableEntry), (⟨50, 55, 100, 20⟩ : ExceptionTableEntry), (⟨56, 61, 100, 20⟩ : ExceptionTableEntry), (⟨62, 67, 100, 20⟩ : ExceptionTableEntry), (⟨68, 73, 100, 20⟩ : ExceptionTableEntry), (⟨74, 87, 100, 20⟩ : ExceptionTableEntry), (⟨88, 93, 100, 20⟩ : ExceptionTableEntry), (⟨94, 99, 100, 20⟩ : ExceptionTableEntry), (⟨0, 49, 105, 15⟩ : ExceptionTableEntry), (⟨50, 55, 105, 15⟩ : ExceptionTableEntry), (⟨56, 61, 105, 15⟩ : ExceptionTableEntry), (⟨62, 67, 105, 15⟩ : ExceptionTableEntry), (⟨68, 73, 105, 15⟩ : ExceptionTableEntry), (⟨74, 87, 105, 15⟩ : ExceptionTableEntry)] (⟨88, 93, 105, 15⟩ : ExceptionTableEntry) [(⟨94, 99, 105, 15⟩ : ExceptionTableEntry), (⟨0, 49, 110, 39⟩ : ExceptionTableEntry), (⟨50, 55, 110, 39⟩ : ExceptionTableEntry), (⟨56, 61, 110, 39⟩ : ExceptionTableEntry), (⟨62, 67, 110, 39⟩ : ExceptionTableEntry), (⟨68, 73, 110, 39⟩ : ExceptionTableEntry), (⟨74, 87, 110, 39⟩ : ExceptionTableEntry), (⟨88, 93, 110, 39⟩ : ExceptionTableEntry), (⟨94, 99, 110, 39⟩ : ExceptionTableEntry)] (by rw [htab]; rfl) (List.forall_mem_cons.mpr ⟨Or.inl rfl, List.forall_mem_cons.mpr ⟨Or.inl rfl, List.forall_mem_cons.mpr ⟨Or.inl rfl, List.forall_mem_cons.mpr ⟨Or.inl rfl, List.forall_mem_cons.mpr ⟨Or.inl rfl, List.forall_mem_cons.mpr ⟨Or.inl rfl, List.forall_mem_cons.mpr ⟨Or.inr ⟨by decide, "java/lang/IndexOutOfBoundsException", hts (.classLink RL 20 "java/lang/IndexOutOfBoundsException") (by decide +kernel), hNC ("java/lang/IllegalStateException", "java/lang/IndexOutOfBoundsException") (by decide +kernel)⟩, List.forall_mem_cons.mpr ⟨Or.inl rfl, List.forall_mem_cons.mpr ⟨Or.inl rfl, List.forall_mem_cons.mpr ⟨Or.inl rfl, List.forall_mem_cons.mpr ⟨Or.inl rfl, List.forall_mem_cons.mpr ⟨Or.inl rfl, List.forall_mem_cons.mpr ⟨Or.inl rfl, List.forall_mem_cons.mpr ⟨Or.inl rfl, fun _ h => absurd h List.not_mem_nil⟩⟩⟩⟩⟩⟩⟩⟩⟩⟩⟩⟩⟩⟩) (by decide) (by decide) (hts (.classLink RL 15 "java/lang/IllegalStateException") (by decide +kernel)) (va_Nw.use rfl (hE.1 (.castable "java/lang/IllegalStateException" "java/lang/IllegalStateException") (by decide +kernel))) hce hcv hcl ?_
      refine lv_astore_n (lv' := [(3, .ref q9), (0, .ref h), (1, .int x), (2, .int 6)]) hx hb dL_message_105 rfl hl (by decide) rfl (fun ls hl => ?_)
      refine lv_sipush (v := (-1002)) hx hb dL_message_106 (by decide) ?_
      have hold := o_handBackC_k (show ¬ (o_handBackC x σ.2.2.1 σ.2.2.2.2.1 σ.2.2.2.2.2).1 = 0 by rw [hcd]; decide)
      have hPf : va_P G vwCl (WS k h a c (g_hb x σ)) H1 := by
        have h9 := yKeep hP2 hk9
        have e9 : g_hb x σ = σ := by show (_, _, _, _, _, _) = σ; simp only [hold]
        rw [e9]; exact h9
      exact W.iret (v := (-1002)) hx hb hr (fun τ hτ hW => ⟨⟨_, (), rfl, (er_c hcd (by decide) (by decide)), yPt hPf hτ⟩, hS9.F hτ⟩) hS9.2.2 dL_message_109
  · obtain ⟨hp8, hp9⟩ := hp9
    have hPf : va_P G vwCl (WS k h a c (g_hb x σ)) H1 := by rw [← ht9]; exact hB9
    subst hp9
    exact W.iret (v := ((o_handBackC x σ.2.2.1 σ.2.2.2.2.1 σ.2.2.2.2.2).2.1)) hx hb hr (fun τ hτ hW => ⟨⟨_, (), rfl, (er_0 hp8).symm, yPt hPf hτ⟩, hS9.F hτ⟩) hS9.2.2 dL_message_93

set_option maxHeartbeats 4000000 in
set_option maxRecDepth 100000 in
theorem c_msg_7 (l : Launch) (hl9 : l.stackTraces = false) (G : va_G) (k : Nat → ClassId) (h : Nat) (a c : Nat → Nat) (σ : SX) (sz : Nat) (x : Int32) (hND : va_D (fun _ => True) (WS k h a c σ)) (hI : yIs σ) : Met l yL_message wsL_message ({ frames := 8, cells := 2, slots := 12, locals := 133 }) (va_Pc [.ref h, .int x, .int 7] (yL G (yT k) (WS k h a c σ) sz)) (va_Qi (fun (r : Int32) (_ : Unit) => r = f_rev x σ) (fun _ τ => va_P G vwCl (WS k h a c (g_rev x σ)) τ.heap) (va_A (WS k h a c σ) sz)) 2 12 (va_A (WS k h a c σ) sz) := by
  refine va_MetW (cc := cL_message) (maxL := 4) (ret := (some .int)) (hh := [(0, 49, 100, 20), (50, 55, 100, 20), (56, 61, 100, 20), (62, 67, 100, 20), (68, 73, 100, 20), (74, 87, 100, 20), (88, 93, 100, 20), (94, 99, 100, 20), (0, 49, 105, 15), (50, 55, 105, 15), (56, 61, 105, 15), (62, 67, 105, 15), (68, 73, 105, 15), (74, 87, 105, 15), (88, 93, 105, 15), (94, 99, 105, 15), (0, 49, 110, 39), (50, 55, 110, 39), (56, 61, 110, 39), (62, 67, 110, 39), (68, 73, 110, 39), (74, 87, 110, 39), (88, 93, 110, 39), (94, 99, 110, 39)]) (by decide) rfl ?_
  intro p e s m args below meth c_ s₁ B hml hv
  obtain ⟨rfl, hsz, hP, hK, hV⟩ := hv
  have hE : yEV0 s s.heap := hV.1
  have hNC : yNC s := hV.2.1
  have hx := B.exec
  have hb := B.bytes
  have hr := B.returns
  have hts := atoms_spec (ws := wsL_message) B.pre
  have hown : s.vm.findClass RL = some m.cls := findClass_of_methodNamed B.named
  have htab : c_.exceptionTable.toList = tableOf [(0, 49, 100, 20), (50, 55, 100, 20), (56, 61, 100, 20), (62, 67, 100, 20), (68, 73, 100, 20), (74, 87, 100, 20), (88, 93, 100, 20), (94, 99, 100, 20), (0, 49, 105, 15), (50, 55, 105, 15), (56, 61, 105, 15), (62, 67, 105, 15), (68, 73, 105, 15), (74, 87, 105, 15), (88, 93, 105, 15), (94, 99, 105, 15), (0, 49, 110, 39), (50, 55, 110, 39), (56, 61, 110, 39), (62, 67, 110, 39), (68, 73, 110, 39), (74, 87, 110, 39), (88, 93, 110, 39), (94, 99, 110, 39)] := vx_table (x := yL_message) B (hts (.codeWith yL_message cL_message 4 (some .int) [(0, 49, 100, 20), (50, 55, 100, 20), (56, 61, 100, 20), (62, 67, 100, 20), (68, 73, 100, 20), (74, 87, 100, 20), (88, 93, 100, 20), (94, 99, 100, 20), (0, 49, 105, 15), (50, 55, 105, 15), (56, 61, 105, 15), (62, 67, 105, 15), (68, 73, 105, 15), (74, 87, 105, 15), (88, 93, 105, 15), (94, 99, 105, 15), (0, 49, 110, 39), (50, 55, 110, 39), (56, 61, 110, 39), (62, 67, 110, 39), (68, 73, 110, 39), (74, 87, 110, 39), (88, 93, 110, 39), (94, 99, 110, 39)]) List.mem_cons_self)
  have hlocks := B.notSynchronized
  subst hsz
  have hD := hND.self (sz := s.heap.size)
  have hS : va_S (va_A (WS k h a c σ) s.heap.size) s.heap s.heap [] := va_S.rf
  have hP2 := hP
  have hl := lv_entry ([.ref h, .int x, .int 7]) (n := 4) (Nat.le_of_ble_eq_true rfl)
  rw [lg_entry_eq]
  generalize (lg_sl ([.ref h, .int x, .int 7]) ++ List.replicate (4 - (lg_sl ([.ref h, .int x, .int 7])).length) Slot.unset).toArray = ls at hl ⊢
  have hl : lv_has ls 4 [(0, .ref h), (1, .int x), (2, .int 7)] := hl
  refine lv_iload_n hx hb dL_message_0 rfl (lv_at hl 2 rfl) ?_
  refine lv_tableOut (tgt := 94) hx hb dL_message_1 (by decide) (by decide) ?_
  refine lv_aload_n hx hb dL_message_94 rfl (lv_at hl 0 rfl) ?_
  refine lv_iload_n hx hb dL_message_95 rfl (lv_at hl 1 rfl) ?_
  refine y_hcall (vx_runV (As := [.int x]) (rest := []) ⟨hx, hb, hml, hown, hts⟩ (c_X2_revive l hl9 G k h a c σ.1 σ.2.1 σ.2.2.1 σ.2.2.2.1 σ.2.2.2.2.1 σ.2.2.2.2.2 s.heap.size x hND hI.2.1) (cwV 1 hts gL_message_X2_revive rfl rfl rfl (by decide +kernel) ⟨Nat.le_of_ble_eq_true rfl, Nat.le_of_ble_eq_true rfl⟩) ⟨yEs_blind, va_recv hK hP2 (ci := 4) (q0 := 0) rfl rfl, fun U hU hW => ⟨rfl, by rw [hU], by rw [hU]; exact hP2, va_K.moved hW.alike hK, yEV_at hE hU hW⟩⟩ rfl rfl hl.1 rfl (lv_room (Nat.le_of_ble_eq_true rfl)) dL_message_96 ⟨Nat.le_of_ble_eq_true rfl, Nat.le_of_ble_eq_true rfl⟩) hS (fun q _ h => h) (fun q h => h) ?_ (fun r u9 t9 H1 locs1 ht9 hp9 hB9 hz9 hk9 hS9 => ?_)
  · intro E ce q9 H1 locs1 hpx hk9 hS9 hce hcv hcl
    rcases hpx with ⟨rfl, hcd⟩ | ⟨rfl, hcd⟩
    · refine vx_catch (own := RL) (name := "java/lang/IndexOutOfBoundsException") (E := "java/lang/IndexOutOfBoundsException") (ce := ce) hown [(⟨0, 49, 100, 20⟩ : ExceptionTableEntry), (⟨50, 55, 100, 20⟩ : ExceptionTableEntry), (⟨56, 61, 100, 20⟩ : ExceptionTableEntry), (⟨62, 67, 100, 20⟩ : ExceptionTableEntry), (⟨68, 73, 100, 20⟩ : ExceptionTableEntry), (⟨74, 87, 100, 20⟩ : ExceptionTableEntry), (⟨88, 93, 100, 20⟩ : ExceptionTableEntry)] (⟨94, 99, 100, 20⟩ : ExceptionTableEntry) [(⟨0, 49, 105, 15⟩ : ExceptionTableEntry), (⟨50, 55, 105, 15⟩ : ExceptionTableEntry), (⟨56, 61, 105, 15⟩ : ExceptionTableEntry), (⟨62, 67, 105, 15⟩ : ExceptionTableEntry), (⟨68, 73, 105, 15⟩ : ExceptionTableEntry), (⟨74, 87, 105, 15⟩ : ExceptionTableEntry), (⟨88, 93, 105, 15⟩ : ExceptionTableEntry), (⟨94, 99, 105, 15⟩ : ExceptionTableEntry), (⟨0, 49, 110, 39⟩ : ExceptionTableEntry), (⟨50, 55, 110, 39⟩ : ExceptionTableEntry), (⟨56, 61, 110, 39⟩ : ExceptionTableEntry), (⟨62, 67, 110, 39⟩ : ExceptionTableEntry), (⟨68, 73, 110, 39⟩ : ExceptionTableEntry), (⟨74, 87, 110, 39⟩ : ExceptionTableEntry), (⟨88, 93, 110, 39⟩ : ExceptionTableEntry), (⟨94, 99, 110, 39⟩ : ExceptionTableEntry)] (by rw [htab]; rfl) (List.forall_mem_cons.mpr ⟨Or.inl rfl, List.forall_mem_cons.mpr ⟨Or.inl rfl, List.forall_mem_cons.mpr ⟨Or.inl rfl, List.forall_mem_cons.mpr ⟨Or.inl rfl, List.forall_mem_cons.mpr ⟨Or.inl rfl, List.forall_mem_cons.mpr ⟨Or.inl rfl, List.forall_mem_cons.mpr ⟨Or.inl rfl, fun _ h => absurd h List.not_mem_nil⟩⟩⟩⟩⟩⟩⟩) (by decide) (by decide) (hts (.classLink RL 20 "java/lang/IndexOutOfBoundsException") (by decide +kernel)) (va_Nw.use rfl (hE.1 (.castable "java/lang/IndexOutOfBoundsException" "java/lang/IndexOutOfBoundsException") (by decide +kernel))) hce hcv hcl ?_
      refine lv_astore_n (lv' := [(3, .ref q9), (0, .ref h), (1, .int x), (2, .int 7)]) hx hb dL_message_100 rfl hl (by decide) rfl (fun ls hl => ?_)
      refine lv_sipush (v := (-1001)) hx hb dL_message_101 (by decide) ?_
      have hold := o_revive_k (show ¬ (o_revive x σ.2.2.1 σ.2.2.2.2.1 σ.2.2.2.2.2).1 = 0 by rw [hcd]; decide)
      have hPf : va_P G vwCl (WS k h a c (g_rev x σ)) H1 := by
        have h9 := yKeep hP2 hk9
        have e9 : g_rev x σ = σ := by show (_, _, _, _, _, _) = σ; simp only [hold]
        rw [e9]; exact h9
      exact W.iret (v := (-1001)) hx hb hr (fun τ hτ hW => ⟨⟨_, (), rfl, (er_c hcd (by decide) (by decide)), yPt hPf hτ⟩, hS9.F hτ⟩) hS9.2.2 dL_message_104
    · refine vx_catch (own := RL) (name := "java/lang/IllegalStateException") (E := "java/lang/IllegalStateException") (ce := ce) hown [(⟨0, 49, 100, 20⟩ : ExceptionTableEntry), (⟨50, 55, 100, 20⟩ : ExceptionTableEntry), (⟨56, 61, 100, 20⟩ : ExceptionTableEntry), (⟨62, 67, 100, 20⟩ : ExceptionTableEntry), (⟨68, 73, 100, 20⟩ : ExceptionTableEntry), (⟨74, 87, 100, 20⟩ : ExceptionTableEntry), (⟨88, 93, 100, 20⟩ : ExceptionTableEntry), (⟨94, 99, 100, 20⟩ : ExceptionTableEntry), (⟨0, 49, 105, 15⟩ : ExceptionTableEntry), (⟨50, 55, 105, 15⟩ : ExceptionTableEntry), (⟨56, 61, 105, 15⟩ : ExceptionTableEntry), (⟨62, 67, 105, 15⟩ : ExceptionTableEntry), (⟨68, 73, 105, 15⟩ : ExceptionTableEntry), (⟨74, 87, 105, 15⟩ : ExceptionTableEntry), (⟨88, 93, 105, 15⟩ : ExceptionTableEntry)] (⟨94, 99, 105, 15⟩ : ExceptionTableEntry) [(⟨0, 49, 110, 39⟩ : ExceptionTableEntry), (⟨50, 55, 110, 39⟩ : ExceptionTableEntry), (⟨56, 61, 110, 39⟩ : ExceptionTableEntry), (⟨62, 67, 110, 39⟩ : ExceptionTableEntry), (⟨68, 73, 110, 39⟩ : ExceptionTableEntry), (⟨74, 87, 110, 39⟩ : ExceptionTableEntry), (⟨88, 93, 110, 39⟩ : ExceptionTableEntry), (⟨94, 99, 110, 39⟩ : ExceptionTableEntry)] (by rw [htab]; rfl) (List.forall_mem_cons.mpr ⟨Or.inl rfl, List.forall_mem_cons.mpr ⟨Or.inl rfl, List.forall_mem_cons.mpr ⟨Or.inl rfl, List.forall_mem_cons.mpr ⟨Or.inl rfl, List.forall_mem_cons.mpr ⟨Or.inl rfl, List.forall_mem_cons.mpr ⟨Or.inl rfl, List.forall_mem_cons.mpr ⟨Or.inl rfl, List.forall_mem_cons.mpr ⟨Or.inr ⟨by decide, "java/lang/IndexOutOfBoundsException", hts (.classLink RL 20 "java/lang/IndexOutOfBoundsException") (by decide +kernel), hNC ("java/lang/IllegalStateException", "java/lang/IndexOutOfBoundsException") (by decide +kernel)⟩, List.forall_mem_cons.mpr ⟨Or.inl rfl, List.forall_mem_cons.mpr ⟨Or.inl rfl, List.forall_mem_cons.mpr ⟨Or.inl rfl, List.forall_mem_cons.mpr ⟨Or.inl rfl, List.forall_mem_cons.mpr ⟨Or.inl rfl, List.forall_mem_cons.mpr ⟨Or.inl rfl, List.forall_mem_cons.mpr ⟨Or.inl rfl, fun _ h => absurd h List.not_mem_nil⟩⟩⟩⟩⟩⟩⟩⟩⟩⟩⟩⟩⟩⟩⟩) (by decide) (by decide) (hts (.classLink RL 15 "java/lang/IllegalStateException") (by decide +kernel)) (va_Nw.use rfl (hE.1 (.castable "java/lang/IllegalStateException" "java/lang/IllegalStateException") (by decide +kernel))) hce hcv hcl ?_
      refine lv_astore_n (lv' := [(3, .ref q9), (0, .ref h), (1, .int x), (2, .int 7)]) hx hb dL_message_105 rfl hl (by decide) rfl (fun ls hl => ?_)
      refine lv_sipush (v := (-1002)) hx hb dL_message_106 (by decide) ?_
      have hold := o_revive_k (show ¬ (o_revive x σ.2.2.1 σ.2.2.2.2.1 σ.2.2.2.2.2).1 = 0 by rw [hcd]; decide)
      have hPf : va_P G vwCl (WS k h a c (g_rev x σ)) H1 := by
        have h9 := yKeep hP2 hk9
        have e9 : g_rev x σ = σ := by show (_, _, _, _, _, _) = σ; simp only [hold]
        rw [e9]; exact h9
      exact W.iret (v := (-1002)) hx hb hr (fun τ hτ hW => ⟨⟨_, (), rfl, (er_c hcd (by decide) (by decide)), yPt hPf hτ⟩, hS9.F hτ⟩) hS9.2.2 dL_message_109
  · obtain ⟨hp8, hp9⟩ := hp9
    have hPf : va_P G vwCl (WS k h a c (g_rev x σ)) H1 := by rw [← ht9]; exact hB9
    subst hp9
    exact W.iret (v := ((o_revive x σ.2.2.1 σ.2.2.2.2.1 σ.2.2.2.2.2).2.1)) hx hb hr (fun τ hτ hW => ⟨⟨_, (), rfl, (er_0 hp8).symm, yPt hPf hτ⟩, hS9.F hτ⟩) hS9.2.2 dL_message_99

set_option maxHeartbeats 4000000 in
set_option maxRecDepth 100000 in
theorem c_open (l : Launch) (hl9 : l.stackTraces = false) (G : va_G) (k : Nat → ClassId) (h : Nat) (a c : Nat → Nat) (σ : SX) (sz : Nat) (x due : Int32) (hND : va_D (fun _ => True) (WS k h a c σ)) (hI : yIs σ) : Met l yL_open wsL_open ({ frames := 7, cells := 1, slots := 6, locals := 113 }) (va_Pc [.ref h, .int x, .int due] (yL G (yT k) (WS k h a c σ) sz)) (va_Qi (fun (r : Int32) (_ : Unit) => r = f_open x due σ) (fun _ τ => va_P G vwCl (WS k h a c (g_open x due σ)) τ.heap) (va_A (WS k h a c σ) sz)) 1 6 (va_A (WS k h a c σ) sz) := by
  refine va_MetW (cc := cL_open) (maxL := 4) (ret := (some .int)) (hh := [(0, 6, 7, 13), (0, 6, 12, 15)]) (by decide) rfl ?_
  intro p e s m args below meth c_ s₁ B hml hv
  obtain ⟨rfl, hsz, hP, hK, hV⟩ := hv
  have hE : yEV0 s s.heap := hV.1
  have hNC : yNC s := hV.2.1
  have hx := B.exec
  have hb := B.bytes
  have hr := B.returns
  have hts := atoms_spec (ws := wsL_open) B.pre
  have hown : s.vm.findClass RL = some m.cls := findClass_of_methodNamed B.named
  have htab : c_.exceptionTable.toList = tableOf [(0, 6, 7, 13), (0, 6, 12, 15)] := vx_table (x := yL_open) B (hts (.codeWith yL_open cL_open 4 (some .int) [(0, 6, 7, 13), (0, 6, 12, 15)]) List.mem_cons_self)
  have hlocks := B.notSynchronized
  subst hsz
  have hD := hND.self (sz := s.heap.size)
  have hS : va_S (va_A (WS k h a c σ) s.heap.size) s.heap s.heap [] := va_S.rf
  have hP2 := hP
  have hl := lv_entry ([.ref h, .int x, .int due]) (n := 4) (Nat.le_of_ble_eq_true rfl)
  rw [lg_entry_eq]
  generalize (lg_sl ([.ref h, .int x, .int due]) ++ List.replicate (4 - (lg_sl ([.ref h, .int x, .int due])).length) Slot.unset).toArray = ls at hl ⊢
  have hl : lv_has ls 4 [(0, .ref h), (1, .int x), (2, .int due)] := hl
  refine lv_aload_n hx hb dL_open_0 rfl (lv_at hl 0 rfl) ?_
  refine lv_iload_n hx hb dL_open_1 rfl (lv_at hl 1 rfl) ?_
  refine lv_iload_n hx hb dL_open_2 rfl (lv_at hl 2 rfl) ?_
  refine y_hcall (vx_runV (As := [.int x, .int due]) (rest := []) ⟨hx, hb, hml, hown, hts⟩ (c_X2_open l hl9 G k h a c σ.1 σ.2.1 σ.2.2.1 σ.2.2.2.1 σ.2.2.2.2.1 σ.2.2.2.2.2 s.heap.size x due hND hI.1 hI.2.1) (cwV 2 hts gL_open_X2_open rfl rfl rfl (by decide +kernel) ⟨Nat.le_of_ble_eq_true rfl, Nat.le_of_ble_eq_true rfl⟩) ⟨yEs_blind, va_recv hK hP2 (ci := 4) (q0 := 0) rfl rfl, fun U hU hW => ⟨rfl, by rw [hU], by rw [hU]; exact hP2, va_K.moved hW.alike hK, yEV_at hE hU hW⟩⟩ rfl rfl hl.1 rfl (lv_room (Nat.le_of_ble_eq_true rfl)) dL_open_3 ⟨Nat.le_of_ble_eq_true rfl, Nat.le_of_ble_eq_true rfl⟩) hS (fun q _ h => h) (fun q h => h) ?_ (fun r u9 t9 H1 locs1 ht9 hp9 hB9 hz9 hk9 hS9 => ?_)
  · intro E ce q9 H1 locs1 hpx hk9 hS9 hce hcv hcl
    rcases hpx with ⟨rfl, hcd⟩ | ⟨rfl, hcd⟩
    · refine vx_catch (own := RL) (name := "java/lang/IllegalArgumentException") (E := "java/lang/IllegalArgumentException") (ce := ce) hown [] (⟨0, 6, 7, 13⟩ : ExceptionTableEntry) [(⟨0, 6, 12, 15⟩ : ExceptionTableEntry)] (by rw [htab]; rfl) (fun _ h => absurd h List.not_mem_nil) (by decide) (by decide) (hts (.classLink RL 13 "java/lang/IllegalArgumentException") (by decide +kernel)) (va_Nw.use rfl (hE.1 (.castable "java/lang/IllegalArgumentException" "java/lang/IllegalArgumentException") (by decide +kernel))) hce hcv hcl ?_
      refine lv_astore_n (lv' := [(3, .ref q9), (0, .ref h), (1, .int x), (2, .int due)]) hx hb dL_open_7 rfl hl (by decide) rfl (fun ls hl => ?_)
      refine lv_sipush (v := (-1001)) hx hb dL_open_8 (by decide) ?_
      have hold := o_open_k (show ¬ (o_open x due σ.1 σ.2.1 σ.2.2.1 σ.2.2.2.2.1 σ.2.2.2.2.2).1 = 0 by rw [hcd]; decide)
      have hPf : va_P G vwCl (WS k h a c (g_open x due σ)) H1 := by
        have h9 := yKeep hP2 hk9
        have e9 : g_open x due σ = σ := by show (_, _, _, _, _, _) = σ; simp only [hold]
        rw [e9]; exact h9
      exact W.iret (v := (-1001)) hx hb hr (fun τ hτ hW => ⟨⟨_, (), rfl, (er_c hcd (by decide) (by decide)), yPt hPf hτ⟩, hS9.F hτ⟩) hS9.2.2 dL_open_11
    · refine vx_catch (own := RL) (name := "java/lang/IllegalStateException") (E := "java/lang/IllegalStateException") (ce := ce) hown [(⟨0, 6, 7, 13⟩ : ExceptionTableEntry)] (⟨0, 6, 12, 15⟩ : ExceptionTableEntry) [] (by rw [htab]; rfl) (List.forall_mem_cons.mpr ⟨Or.inr ⟨by decide, "java/lang/IllegalArgumentException", hts (.classLink RL 13 "java/lang/IllegalArgumentException") (by decide +kernel), hNC ("java/lang/IllegalStateException", "java/lang/IllegalArgumentException") (by decide +kernel)⟩, fun _ h => absurd h List.not_mem_nil⟩) (by decide) (by decide) (hts (.classLink RL 15 "java/lang/IllegalStateException") (by decide +kernel)) (va_Nw.use rfl (hE.1 (.castable "java/lang/IllegalStateException" "java/lang/IllegalStateException") (by decide +kernel))) hce hcv hcl ?_
      refine lv_astore_n (lv' := [(3, .ref q9), (0, .ref h), (1, .int x), (2, .int due)]) hx hb dL_open_12 rfl hl (by decide) rfl (fun ls hl => ?_)
      refine lv_sipush (v := (-1002)) hx hb dL_open_13 (by decide) ?_
      have hold := o_open_k (show ¬ (o_open x due σ.1 σ.2.1 σ.2.2.1 σ.2.2.2.2.1 σ.2.2.2.2.2).1 = 0 by rw [hcd]; decide)
      have hPf : va_P G vwCl (WS k h a c (g_open x due σ)) H1 := by
        have h9 := yKeep hP2 hk9
        have e9 : g_open x due σ = σ := by show (_, _, _, _, _, _) = σ; simp only [hold]
        rw [e9]; exact h9
      exact W.iret (v := (-1002)) hx hb hr (fun τ hτ hW => ⟨⟨_, (), rfl, (er_c hcd (by decide) (by decide)), yPt hPf hτ⟩, hS9.F hτ⟩) hS9.2.2 dL_open_16
  · obtain ⟨hp8, hp9⟩ := hp9
    have hPf : va_P G vwCl (WS k h a c (g_open x due σ)) H1 := by rw [← ht9]; exact hB9
    subst hp9
    exact W.iret (v := ((o_open x due σ.1 σ.2.1 σ.2.2.1 σ.2.2.2.2.1 σ.2.2.2.2.2).2.1)) hx hb hr (fun τ hτ hW => ⟨⟨_, (), rfl, (er_0 hp8).symm, yPt hPf hτ⟩, hS9.F hτ⟩) hS9.2.2 dL_open_6

set_option maxHeartbeats 4000000 in
set_option maxRecDepth 100000 in
theorem c_pause (l : Launch) (hl9 : l.stackTraces = false) (G : va_G) (k : Nat → ClassId) (h : Nat) (a c : Nat → Nat) (σ : SX) (sz : Nat) (x dd : Int32) (hND : va_D (fun _ => True) (WS k h a c σ)) (hI : yIs σ) : Met l yL_pause wsL_pause ({ frames := 8, cells := 3, slots := 18, locals := 133 }) (va_Pc [.ref h, .int x, .int dd] (yL G (yT k) (WS k h a c σ) sz)) (va_Qi (fun (r : Int32) (_ : Unit) => r = f_pause x dd σ) (fun _ τ => va_P G vwCl (WS k h a c (g_pause x dd σ)) τ.heap) (va_A (WS k h a c σ) sz)) 3 18 (va_A (WS k h a c σ) sz) := by
  refine va_MetW (cc := cL_pause) (maxL := 4) (ret := (some .int)) (hh := [(0, 6, 7, 20), (0, 6, 12, 13), (0, 6, 17, 15)]) (by decide) rfl ?_
  intro p e s m args below meth c_ s₁ B hml hv
  obtain ⟨rfl, hsz, hP, hK, hV⟩ := hv
  have hE : yEV0 s s.heap := hV.1
  have hNC : yNC s := hV.2.1
  have hx := B.exec
  have hb := B.bytes
  have hr := B.returns
  have hts := atoms_spec (ws := wsL_pause) B.pre
  have hown : s.vm.findClass RL = some m.cls := findClass_of_methodNamed B.named
  have htab : c_.exceptionTable.toList = tableOf [(0, 6, 7, 20), (0, 6, 12, 13), (0, 6, 17, 15)] := vx_table (x := yL_pause) B (hts (.codeWith yL_pause cL_pause 4 (some .int) [(0, 6, 7, 20), (0, 6, 12, 13), (0, 6, 17, 15)]) List.mem_cons_self)
  have hlocks := B.notSynchronized
  subst hsz
  have hD := hND.self (sz := s.heap.size)
  have hS : va_S (va_A (WS k h a c σ) s.heap.size) s.heap s.heap [] := va_S.rf
  have hP2 := hP
  have hl := lv_entry ([.ref h, .int x, .int dd]) (n := 4) (Nat.le_of_ble_eq_true rfl)
  rw [lg_entry_eq]
  generalize (lg_sl ([.ref h, .int x, .int dd]) ++ List.replicate (4 - (lg_sl ([.ref h, .int x, .int dd])).length) Slot.unset).toArray = ls at hl ⊢
  have hl : lv_has ls 4 [(0, .ref h), (1, .int x), (2, .int dd)] := hl
  refine lv_aload_n hx hb dL_pause_0 rfl (lv_at hl 0 rfl) ?_
  refine lv_iload_n hx hb dL_pause_1 rfl (lv_at hl 1 rfl) ?_
  refine lv_iload_n hx hb dL_pause_2 rfl (lv_at hl 2 rfl) ?_
  refine y_hcall (vx_runV (As := [.int x, .int dd]) (rest := []) ⟨hx, hb, hml, hown, hts⟩ (c_X2_pause l hl9 G k h a c σ.1 σ.2.1 σ.2.2.1 σ.2.2.2.1 σ.2.2.2.2.1 σ.2.2.2.2.2 s.heap.size x dd hND hI.1 (yJ_C hI)) (cwV 2 hts gL_pause_X2_pause rfl rfl rfl (by decide +kernel) ⟨Nat.le_of_ble_eq_true rfl, Nat.le_of_ble_eq_true rfl⟩) ⟨yEs_blind, va_recv hK hP2 (ci := 4) (q0 := 0) rfl rfl, fun U hU hW => ⟨rfl, by rw [hU], by rw [hU]; exact hP2, va_K.moved hW.alike hK, yEV_at hE hU hW⟩⟩ rfl rfl hl.1 rfl (lv_room (Nat.le_of_ble_eq_true rfl)) dL_pause_3 ⟨Nat.le_of_ble_eq_true rfl, Nat.le_of_ble_eq_true rfl⟩) hS (fun q _ h => h) (fun q h => h) ?_ (fun r u9 t9 H1 locs1 ht9 hp9 hB9 hz9 hk9 hS9 => ?_)
  · intro E ce q9 H1 locs1 hpx hk9 hS9 hce hcv hcl
    rcases hpx with ⟨rfl, hcd⟩ | ⟨rfl, hcd⟩ | ⟨rfl, hcd⟩
    · refine vx_catch (own := RL) (name := "java/lang/IndexOutOfBoundsException") (E := "java/lang/IndexOutOfBoundsException") (ce := ce) hown [] (⟨0, 6, 7, 20⟩ : ExceptionTableEntry) [(⟨0, 6, 12, 13⟩ : ExceptionTableEntry), (⟨0, 6, 17, 15⟩ : ExceptionTableEntry)] (by rw [htab]; rfl) (fun _ h => absurd h List.not_mem_nil) (by decide) (by decide) (hts (.classLink RL 20 "java/lang/IndexOutOfBoundsException") (by decide +kernel)) (va_Nw.use rfl (hE.1 (.castable "java/lang/IndexOutOfBoundsException" "java/lang/IndexOutOfBoundsException") (by decide +kernel))) hce hcv hcl ?_
      refine lv_astore_n (lv' := [(3, .ref q9), (0, .ref h), (1, .int x), (2, .int dd)]) hx hb dL_pause_7 rfl hl (by decide) rfl (fun ls hl => ?_)
      refine lv_sipush (v := (-1001)) hx hb dL_pause_8 (by decide) ?_
      have hold := o_pause_k (show ¬ (o_pause x dd σ.1 σ.2.1 σ.2.2.2.2.2).1 = 0 by rw [hcd]; decide)
      have hPf : va_P G vwCl (WS k h a c (g_pause x dd σ)) H1 := by
        have h9 := yKeep hP2 hk9
        have e9 : g_pause x dd σ = σ := by show (_, _, _, _, _, _) = σ; simp only [hold]
        rw [e9]; exact h9
      exact W.iret (v := (-1001)) hx hb hr (fun τ hτ hW => ⟨⟨_, (), rfl, (er_c hcd (by decide) (by decide)), yPt hPf hτ⟩, hS9.F hτ⟩) hS9.2.2 dL_pause_11
    · refine vx_catch (own := RL) (name := "java/lang/IllegalArgumentException") (E := "java/lang/IllegalArgumentException") (ce := ce) hown [(⟨0, 6, 7, 20⟩ : ExceptionTableEntry)] (⟨0, 6, 12, 13⟩ : ExceptionTableEntry) [(⟨0, 6, 17, 15⟩ : ExceptionTableEntry)] (by rw [htab]; rfl) (List.forall_mem_cons.mpr ⟨Or.inr ⟨by decide, "java/lang/IndexOutOfBoundsException", hts (.classLink RL 20 "java/lang/IndexOutOfBoundsException") (by decide +kernel), hNC ("java/lang/IllegalArgumentException", "java/lang/IndexOutOfBoundsException") (by decide +kernel)⟩, fun _ h => absurd h List.not_mem_nil⟩) (by decide) (by decide) (hts (.classLink RL 13 "java/lang/IllegalArgumentException") (by decide +kernel)) (va_Nw.use rfl (hE.1 (.castable "java/lang/IllegalArgumentException" "java/lang/IllegalArgumentException") (by decide +kernel))) hce hcv hcl ?_
      refine lv_astore_n (lv' := [(3, .ref q9), (0, .ref h), (1, .int x), (2, .int dd)]) hx hb dL_pause_12 rfl hl (by decide) rfl (fun ls hl => ?_)
      refine lv_sipush (v := (-1002)) hx hb dL_pause_13 (by decide) ?_
      have hold := o_pause_k (show ¬ (o_pause x dd σ.1 σ.2.1 σ.2.2.2.2.2).1 = 0 by rw [hcd]; decide)
      have hPf : va_P G vwCl (WS k h a c (g_pause x dd σ)) H1 := by
        have h9 := yKeep hP2 hk9
        have e9 : g_pause x dd σ = σ := by show (_, _, _, _, _, _) = σ; simp only [hold]
        rw [e9]; exact h9
      exact W.iret (v := (-1002)) hx hb hr (fun τ hτ hW => ⟨⟨_, (), rfl, (er_c hcd (by decide) (by decide)), yPt hPf hτ⟩, hS9.F hτ⟩) hS9.2.2 dL_pause_16
    · refine vx_catch (own := RL) (name := "java/lang/IllegalStateException") (E := "java/lang/IllegalStateException") (ce := ce) hown [(⟨0, 6, 7, 20⟩ : ExceptionTableEntry), (⟨0, 6, 12, 13⟩ : ExceptionTableEntry)] (⟨0, 6, 17, 15⟩ : ExceptionTableEntry) [] (by rw [htab]; rfl) (List.forall_mem_cons.mpr ⟨Or.inr ⟨by decide, "java/lang/IndexOutOfBoundsException", hts (.classLink RL 20 "java/lang/IndexOutOfBoundsException") (by decide +kernel), hNC ("java/lang/IllegalStateException", "java/lang/IndexOutOfBoundsException") (by decide +kernel)⟩, List.forall_mem_cons.mpr ⟨Or.inr ⟨by decide, "java/lang/IllegalArgumentException", hts (.classLink RL 13 "java/lang/IllegalArgumentException") (by decide +kernel), hNC ("java/lang/IllegalStateException", "java/lang/IllegalArgumentException") (by decide +kernel)⟩, fun _ h => absurd h List.not_mem_nil⟩⟩) (by decide) (by decide) (hts (.classLink RL 15 "java/lang/IllegalStateException") (by decide +kernel)) (va_Nw.use rfl (hE.1 (.castable "java/lang/IllegalStateException" "java/lang/IllegalStateException") (by decide +kernel))) hce hcv hcl ?_
      refine lv_astore_n (lv' := [(3, .ref q9), (0, .ref h), (1, .int x), (2, .int dd)]) hx hb dL_pause_17 rfl hl (by decide) rfl (fun ls hl => ?_)
      refine lv_sipush (v := (-1003)) hx hb dL_pause_18 (by decide) ?_
      have hold := o_pause_k (show ¬ (o_pause x dd σ.1 σ.2.1 σ.2.2.2.2.2).1 = 0 by rw [hcd]; decide)
      have hPf : va_P G vwCl (WS k h a c (g_pause x dd σ)) H1 := by
        have h9 := yKeep hP2 hk9
        have e9 : g_pause x dd σ = σ := by show (_, _, _, _, _, _) = σ; simp only [hold]
        rw [e9]; exact h9
      exact W.iret (v := (-1003)) hx hb hr (fun τ hτ hW => ⟨⟨_, (), rfl, (er_c hcd (by decide) (by decide)), yPt hPf hτ⟩, hS9.F hτ⟩) hS9.2.2 dL_pause_21
  · obtain ⟨hp8, hp9⟩ := hp9
    have hPf : va_P G vwCl (WS k h a c (g_pause x dd σ)) H1 := by rw [← ht9]; exact hB9
    subst hp9
    exact W.iret (v := ((o_pause x dd σ.1 σ.2.1 σ.2.2.2.2.2).2.1)) hx hb hr (fun τ hτ hW => ⟨⟨_, (), rfl, (er_0 hp8).symm, yPt hPf hτ⟩, hS9.F hτ⟩) hS9.2.2 dL_pause_6

set_option maxHeartbeats 4000000 in
set_option maxRecDepth 100000 in
theorem c_post (l : Launch) (hl9 : l.stackTraces = false) (G : va_G) (k : Nat → ClassId) (h : Nat) (a c : Nat → Nat) (σ : SX) (q0 : Nat) (fA : Nat → Int32) (sz : Nat) (kd x v dl : Int32) (hND : va_D (fun _ => True) (WS k h a c σ)) (hI : yIs σ) : Met l yL_post wsL_post ({ frames := 8, cells := 2, slots := 12, locals := 138 }) (va_Pc [.ref h, .ref q0, .int kd, .int x, .int v, .int dl] (yL G (yT k) ((q0, .inl (k 0, 2, .inl fA)) :: WS k h a c σ) sz)) (va_Qi (fun (r : Int32) (_ : Unit) => r = f_post (fA 0) (fA 1) kd x v dl σ) (fun _ τ => va_P G vwCl (WS k h a c (g_post (fA 0) (fA 1) kd x v dl σ)) τ.heap) (va_A (WS k h a c σ) sz)) 2 12 (va_A (WS k h a c σ) sz) := by
  refine va_MetW (cc := cL_post) (maxL := 7) (ret := (some .int)) (hh := [(0, 16, 17, 13), (0, 16, 23, 15)]) (by decide) rfl ?_
  intro p e s m args below meth c_ s₁ B hml hv
  obtain ⟨rfl, hsz, hP, hK, hV⟩ := hv
  have hE : yEV0 s s.heap := hV.1
  have hNC : yNC s := hV.2.1
  have hx := B.exec
  have hb := B.bytes
  have hr := B.returns
  have hts := atoms_spec (ws := wsL_post) B.pre
  have hown : s.vm.findClass RL = some m.cls := findClass_of_methodNamed B.named
  have htab : c_.exceptionTable.toList = tableOf [(0, 16, 17, 13), (0, 16, 23, 15)] := vx_table (x := yL_post) B (hts (.codeWith yL_post cL_post 7 (some .int) [(0, 16, 17, 13), (0, 16, 23, 15)]) List.mem_cons_self)
  have hlocks := B.notSynchronized
  subst hsz
  have hD := hND.self (sz := s.heap.size)
  have hS : va_S (va_A (WS k h a c σ) s.heap.size) s.heap s.heap [] := va_S.rf
  have hP2 : va_P G vwCl (WS k h a c σ) s.heap := yP_tl hP
  have hl := lv_entry ([.ref h, .ref q0, .int kd, .int x, .int v, .int dl]) (n := 7) (Nat.le_of_ble_eq_true rfl)
  rw [lg_entry_eq]
  generalize (lg_sl ([.ref h, .ref q0, .int kd, .int x, .int v, .int dl]) ++ List.replicate (7 - (lg_sl ([.ref h, .ref q0, .int kd, .int x, .int v, .int dl])).length) Slot.unset).toArray = ls at hl ⊢
  have hl : lv_has ls 7 [(0, .ref h), (1, .ref q0), (2, .int kd), (3, .int x), (4, .int v), (5, .int dl)] := hl
  refine lv_aload_n hx hb dL_post_0 rfl (lv_at hl 0 rfl) ?_
  refine lv_aload_n hx hb dL_post_1 rfl (lv_at hl 1 rfl) ?_
  refine lv_iconst (v := 0) hx hb dL_post_2 (by decide) ?_
  refine y_iald (j := 0) hx hb hK hP 0 0 rfl rfl (by decide) (by decide) dL_post_3 ?_
  refine lv_aload_n hx hb dL_post_4 rfl (lv_at hl 1 rfl) ?_
  refine lv_iconst (v := 1) hx hb dL_post_5 (by decide) ?_
  refine y_iald (j := 1) hx hb hK hP 0 0 rfl rfl (by decide) (by decide) dL_post_6 ?_
  refine lv_iload_n hx hb dL_post_7 rfl (lv_at hl 2 rfl) ?_
  refine lv_iload_n hx hb dL_post_8 rfl (lv_at hl 3 rfl) ?_
  refine lv_iload hx hb dL_post_9 (lv_at hl 4 rfl) ?_
  refine lv_iload hx hb dL_post_11 (lv_at hl 5 rfl) ?_
  refine y_hcall (vx_runV (As := [.int (fA 0), .int (fA 1), .int kd, .int x, .int v, .int dl]) (rest := []) ⟨hx, hb, hml, hown, hts⟩ (c_X2_post l hl9 G k h a c σ.1 σ.2.1 σ.2.2.1 σ.2.2.2.1 σ.2.2.2.2.1 σ.2.2.2.2.2 s.heap.size (fA 0) (fA 1) kd x v dl hND hI.1 hI.2.1) (cwV 6 hts gL_post_X2_post rfl rfl rfl (by decide +kernel) ⟨Nat.le_of_ble_eq_true rfl, Nat.le_of_ble_eq_true rfl⟩) ⟨yEs_blind, va_recv hK hP2 (ci := 4) (q0 := 0) rfl rfl, fun U hU hW => ⟨rfl, by rw [hU], by rw [hU]; exact hP2, va_K.moved hW.alike hK, yEV_at hE hU hW⟩⟩ rfl rfl hl.1 rfl (lv_room (Nat.le_of_ble_eq_true rfl)) dL_post_13 ⟨Nat.le_of_ble_eq_true rfl, Nat.le_of_ble_eq_true rfl⟩) hS (fun q _ h => h) (fun q h => h) ?_ (fun r u9 t9 H1 locs1 ht9 hp9 hB9 hz9 hk9 hS9 => ?_)
  · intro E ce q9 H1 locs1 hpx hk9 hS9 hce hcv hcl
    rcases hpx with ⟨rfl, hcd⟩ | ⟨rfl, hcd⟩
    · refine vx_catch (own := RL) (name := "java/lang/IllegalArgumentException") (E := "java/lang/IllegalArgumentException") (ce := ce) hown [] (⟨0, 16, 17, 13⟩ : ExceptionTableEntry) [(⟨0, 16, 23, 15⟩ : ExceptionTableEntry)] (by rw [htab]; rfl) (fun _ h => absurd h List.not_mem_nil) (by decide) (by decide) (hts (.classLink RL 13 "java/lang/IllegalArgumentException") (by decide +kernel)) (va_Nw.use rfl (hE.1 (.castable "java/lang/IllegalArgumentException" "java/lang/IllegalArgumentException") (by decide +kernel))) hce hcv hcl ?_
      refine lv_astore (lv' := [(6, .ref q9), (0, .ref h), (1, .ref q0), (2, .int kd), (3, .int x), (4, .int v), (5, .int dl)]) hx hb dL_post_17 hl (by decide) rfl (fun ls hl => ?_)
      refine lv_sipush (v := (-1001)) hx hb dL_post_19 (by decide) ?_
      have hold := o_post_k (show ¬ (o_post (fA 0) (fA 1) kd x v dl σ.2.1 σ.2.2.1 σ.2.2.2.2.1 σ.2.2.2.2.2).1 = 0 by rw [hcd]; decide)
      have hPf : va_P G vwCl (WS k h a c (g_post (fA 0) (fA 1) kd x v dl σ)) H1 := by
        have h9 := yKeep hP2 hk9
        have e9 : g_post (fA 0) (fA 1) kd x v dl σ = σ := by show (_, _, _, _, _, _) = σ; simp only [hold]
        rw [e9]; exact h9
      exact W.iret (v := (-1001)) hx hb hr (fun τ hτ hW => ⟨⟨_, (), rfl, (er_c hcd (by decide) (by decide)), yPt hPf hτ⟩, hS9.F hτ⟩) hS9.2.2 dL_post_22
    · refine vx_catch (own := RL) (name := "java/lang/IllegalStateException") (E := "java/lang/IllegalStateException") (ce := ce) hown [(⟨0, 16, 17, 13⟩ : ExceptionTableEntry)] (⟨0, 16, 23, 15⟩ : ExceptionTableEntry) [] (by rw [htab]; rfl) (List.forall_mem_cons.mpr ⟨Or.inr ⟨by decide, "java/lang/IllegalArgumentException", hts (.classLink RL 13 "java/lang/IllegalArgumentException") (by decide +kernel), hNC ("java/lang/IllegalStateException", "java/lang/IllegalArgumentException") (by decide +kernel)⟩, fun _ h => absurd h List.not_mem_nil⟩) (by decide) (by decide) (hts (.classLink RL 15 "java/lang/IllegalStateException") (by decide +kernel)) (va_Nw.use rfl (hE.1 (.castable "java/lang/IllegalStateException" "java/lang/IllegalStateException") (by decide +kernel))) hce hcv hcl ?_
      refine lv_astore (lv' := [(6, .ref q9), (0, .ref h), (1, .ref q0), (2, .int kd), (3, .int x), (4, .int v), (5, .int dl)]) hx hb dL_post_23 hl (by decide) rfl (fun ls hl => ?_)
      refine lv_sipush (v := (-1002)) hx hb dL_post_25 (by decide) ?_
      have hold := o_post_k (show ¬ (o_post (fA 0) (fA 1) kd x v dl σ.2.1 σ.2.2.1 σ.2.2.2.2.1 σ.2.2.2.2.2).1 = 0 by rw [hcd]; decide)
      have hPf : va_P G vwCl (WS k h a c (g_post (fA 0) (fA 1) kd x v dl σ)) H1 := by
        have h9 := yKeep hP2 hk9
        have e9 : g_post (fA 0) (fA 1) kd x v dl σ = σ := by show (_, _, _, _, _, _) = σ; simp only [hold]
        rw [e9]; exact h9
      exact W.iret (v := (-1002)) hx hb hr (fun τ hτ hW => ⟨⟨_, (), rfl, (er_c hcd (by decide) (by decide)), yPt hPf hτ⟩, hS9.F hτ⟩) hS9.2.2 dL_post_28
  · obtain ⟨hp8, hp9⟩ := hp9
    have hPf : va_P G vwCl (WS k h a c (g_post (fA 0) (fA 1) kd x v dl σ)) H1 := by rw [← ht9]; exact hB9
    subst hp9
    exact W.iret (v := ((o_post (fA 0) (fA 1) kd x v dl σ.2.1 σ.2.2.1 σ.2.2.2.2.1 σ.2.2.2.2.2).2.1)) hx hb hr (fun τ hτ hW => ⟨⟨_, (), rfl, (er_0 hp8).symm, yPt hPf hτ⟩, hS9.F hτ⟩) hS9.2.2 dL_post_16

set_option maxHeartbeats 4000000 in
set_option maxRecDepth 100000 in
theorem c_wk (l : Launch) (hl9 : l.stackTraces = false) (G : va_G) (k : Nat → ClassId) (h : Nat) (a c : Nat → Nat) (σ : SX) (sz : Nat) (x : Int32) (hI : yIs σ) : Met l yL_withKey wsL_withKey ({ frames := 7, cells := 1, slots := 6, locals := 112 }) (va_Pc [.ref h, .int x] (yL G (yT k) (WS k h a c σ) sz)) (va_Qi (fun (r : Int32) (_ : Unit) => r = f_wk x σ) (fun _ _ => True) (fun q : Nat => sz ≤ q)) 1 6 (fun q : Nat => sz ≤ q) := by
  refine va_MetW (cc := cL_withKey) (maxL := 3) (ret := (some .int)) (hh := [(0, 5, 6, 39)]) (by decide) rfl ?_
  intro p e s m args below meth c_ s₁ B hml hv
  obtain ⟨rfl, hsz, hP, hK, hV⟩ := hv
  have hE : yEV0 s s.heap := hV.1
  have hNC : yNC s := hV.2.1
  have hx := B.exec
  have hb := B.bytes
  have hr := B.returns
  have hts := atoms_spec (ws := wsL_withKey) B.pre
  have hown : s.vm.findClass RL = some m.cls := findClass_of_methodNamed B.named
  have htab : c_.exceptionTable.toList = tableOf [(0, 5, 6, 39)] := vx_table (x := yL_withKey) B (hts (.codeWith yL_withKey cL_withKey 3 (some .int) [(0, 5, 6, 39)]) List.mem_cons_self)
  have hlocks := B.notSynchronized
  subst hsz
  have hS : va_S (fun q : Nat => s.heap.size ≤ q) s.heap s.heap [] := va_S.rf
  have hP2 := hP
  have hl := lv_entry ([.ref h, .int x]) (n := 3) (Nat.le_of_ble_eq_true rfl)
  rw [lg_entry_eq]
  generalize (lg_sl ([.ref h, .int x]) ++ List.replicate (3 - (lg_sl ([.ref h, .int x])).length) Slot.unset).toArray = ls at hl ⊢
  have hl : lv_has ls 3 [(0, .ref h), (1, .int x)] := hl
  refine lv_aload_n hx hb dL_withKey_0 rfl (lv_at hl 0 rfl) ?_
  refine lv_iload_n hx hb dL_withKey_1 rfl (lv_at hl 1 rfl) ?_
  refine y_hread (mk := Value.int) yQi (vx_runV (As := [.int x]) (rest := []) ⟨hx, hb, hml, hown, hts⟩ (c_X2_withKey l hl9 G k h a c σ.1 σ.2.1 σ.2.2.1 σ.2.2.2.1 σ.2.2.2.2.1 σ.2.2.2.2.2 x hI.2.1) (cwV 1 hts gL_withKey_X2_withKey rfl rfl rfl (by decide +kernel) ⟨Nat.le_of_ble_eq_true rfl, Nat.le_of_ble_eq_true rfl⟩) ⟨yE_blind, va_recv hK hP2 (ci := 4) (q0 := 0) rfl rfl, fun U hU hW => ⟨rfl, by rw [hU]; exact hP2, va_K.moved hW.alike hK, yEV_at hE hU hW⟩⟩ rfl rfl hl.1 rfl (lv_room (Nat.le_of_ble_eq_true rfl)) dL_withKey_2 ⟨Nat.le_of_ble_eq_true rfl, Nat.le_of_ble_eq_true rfl⟩) hS ?_ (fun r hp9 => ?_)
  · intro E ce q9 H1 locs1 hpx hk9 hS9 hce hcv hcl
    rcases hpx with ⟨rfl, hcd⟩
    · refine vx_catch (own := RL) (name := "java/util/NoSuchElementException") (E := "java/util/NoSuchElementException") (ce := ce) hown [] (⟨0, 5, 6, 39⟩ : ExceptionTableEntry) [] (by rw [htab]; rfl) (fun _ h => absurd h List.not_mem_nil) (by decide) (by decide) (hts (.classLink RL 39 "java/util/NoSuchElementException") (by decide +kernel)) (va_Nw.use rfl (hE.1 (.castable "java/util/NoSuchElementException" "java/util/NoSuchElementException") (by decide +kernel))) hce hcv hcl ?_
      refine lv_astore_n (lv' := [(2, .ref q9), (0, .ref h), (1, .int x)]) hx hb dL_withKey_6 rfl hl (by decide) rfl (fun ls hl => ?_)
      refine lv_sipush (v := (-1001)) hx hb dL_withKey_7 (by decide) ?_
      exact W.iret (v := (-1001)) hx hb hr (fun τ hτ hW => ⟨⟨_, (), rfl, (er_c hcd (by decide) (by decide)), trivial⟩, hS9.F hτ⟩) hS9.2.2 dL_withKey_10
  · obtain ⟨hp8, hp9⟩ := hp9
    subst hp9
    exact W.iret (v := ((o_withKey x σ.2.2.1 σ.2.2.2.2.1).2)) hx hb hr (fun τ hτ hW => ⟨⟨_, (), rfl, (er_0 hp8).symm, trivial⟩, hS.F hτ⟩) hS.2.2 dL_withKey_5

set_option maxHeartbeats 4000000 in
set_option maxRecDepth 100000 in
theorem c_rdy (l : Launch) (hl9 : l.stackTraces = false) (G : va_G) (k : Nat → ClassId) (h : Nat) (a c : Nat → Nat) (σ : SX) (sz : Nat) (q : Int32) (hI : yIs σ) : Met l yL_ready wsL_ready ({ frames := 8, cells := 1, slots := 6, locals := 131 }) (va_Pc [.ref h, .int q, .int (-1)] (yL G (yT k) (WS k h a c σ) sz)) (va_Qi (fun (r : Int32) (_ : Unit) => r = f_rdy q σ) (fun _ _ => True) (fun q : Nat => sz ≤ q)) 1 6 (fun q : Nat => sz ≤ q) := by
  refine va_MetW (cc := cL_ready) (maxL := 4) (ret := (some .int)) (hh := [(0, 19, 20, 13), (0, 19, 25, 39)]) (by decide) rfl ?_
  intro p e s m args below meth c_ s₁ B hml hv
  obtain ⟨rfl, hsz, hP, hK, hV⟩ := hv
  have hE : yEV0 s s.heap := hV.1
  have hNC : yNC s := hV.2.1
  have hx := B.exec
  have hb := B.bytes
  have hr := B.returns
  have hts := atoms_spec (ws := wsL_ready) B.pre
  have hown : s.vm.findClass RL = some m.cls := findClass_of_methodNamed B.named
  have htab : c_.exceptionTable.toList = tableOf [(0, 19, 20, 13), (0, 19, 25, 39)] := vx_table (x := yL_ready) B (hts (.codeWith yL_ready cL_ready 4 (some .int) [(0, 19, 20, 13), (0, 19, 25, 39)]) List.mem_cons_self)
  have hlocks := B.notSynchronized
  subst hsz
  have hS : va_S (fun q : Nat => s.heap.size ≤ q) s.heap s.heap [] := va_S.rf
  have hP2 := hP
  have hl := lv_entry ([.ref h, .int q, .int (-1)]) (n := 4) (Nat.le_of_ble_eq_true rfl)
  rw [lg_entry_eq]
  generalize (lg_sl ([.ref h, .int q, .int (-1)]) ++ List.replicate (4 - (lg_sl ([.ref h, .int q, .int (-1)])).length) Slot.unset).toArray = ls at hl ⊢
  have hl : lv_has ls 4 [(0, .ref h), (1, .int q), (2, .int (-1))] := hl
  refine lv_iload_n hx hb dL_ready_0 rfl (lv_at hl 2 rfl) ?_
  refine lv_iconst (v := (-1)) hx hb dL_ready_1 (by decide) ?_
  refine lv_icmp_ne (tgt := 13) hx hb dL_ready_2 (by decide) (fun c9 => absurd c9 (by decide)) (fun _ => ?_)
  refine lv_aload_n hx hb dL_ready_5 rfl (lv_at hl 0 rfl) ?_
  refine lv_iload_n hx hb dL_ready_6 rfl (lv_at hl 1 rfl) ?_
  refine y_hread (mk := Value.int) yQi (vx_runV (As := [.int q]) (rest := []) ⟨hx, hb, hml, hown, hts⟩ (c_X2_ready l hl9 G k h a c σ.1 σ.2.1 σ.2.2.1 σ.2.2.2.1 σ.2.2.2.2.1 σ.2.2.2.2.2 q hI.2.1) (cwV 1 hts gL_ready_X2_ready rfl rfl rfl (by decide +kernel) ⟨Nat.le_of_ble_eq_true rfl, Nat.le_of_ble_eq_true rfl⟩) ⟨yE_blind, va_recv hK hP2 (ci := 4) (q0 := 0) rfl rfl, fun U hU hW => ⟨rfl, by rw [hU]; exact hP2, va_K.moved hW.alike hK, yEV_at hE hU hW⟩⟩ rfl rfl hl.1 rfl (lv_room (Nat.le_of_ble_eq_true rfl)) dL_ready_7 ⟨Nat.le_of_ble_eq_true rfl, Nat.le_of_ble_eq_true rfl⟩) hS ?_ (fun r hp9 => ?_)
  · intro E ce q9 H1 locs1 hpx hk9 hS9 hce hcv hcl
    rcases hpx with ⟨rfl, hcd⟩
    · refine vx_catch (own := RL) (name := "java/lang/IllegalArgumentException") (E := "java/lang/IllegalArgumentException") (ce := ce) hown [] (⟨0, 19, 20, 13⟩ : ExceptionTableEntry) [(⟨0, 19, 25, 39⟩ : ExceptionTableEntry)] (by rw [htab]; rfl) (fun _ h => absurd h List.not_mem_nil) (by decide) (by decide) (hts (.classLink RL 13 "java/lang/IllegalArgumentException") (by decide +kernel)) (va_Nw.use rfl (hE.1 (.castable "java/lang/IllegalArgumentException" "java/lang/IllegalArgumentException") (by decide +kernel))) hce hcv hcl ?_
      refine lv_astore_n (lv' := [(3, .ref q9), (0, .ref h), (1, .int q), (2, .int (-1))]) hx hb dL_ready_20 rfl hl (by decide) rfl (fun ls hl => ?_)
      refine lv_sipush (v := (-1001)) hx hb dL_ready_21 (by decide) ?_
      exact W.iret (v := (-1001)) hx hb hr (fun τ hτ hW => ⟨⟨_, (), rfl, (er_c hcd (by decide) (by decide)), trivial⟩, hS9.F hτ⟩) hS9.2.2 dL_ready_24
  · obtain ⟨hp8, hp9⟩ := hp9
    subst hp9
    refine lv_goto (tgt := 19) hx hb dL_ready_10 (by decide) ?_
    exact W.iret (v := ((o_ready q σ.2.2.1 σ.2.2.2.2.1 σ.2.2.2.2.2).2)) hx hb hr (fun τ hτ hW => ⟨⟨_, (), rfl, (er_0 hp8).symm, trivial⟩, hS.F hτ⟩) hS.2.2 dL_ready_19

set_option maxHeartbeats 4000000 in
set_option maxRecDepth 100000 in
theorem c_rap (l : Launch) (hl9 : l.stackTraces = false) (G : va_G) (k : Nat → ClassId) (h : Nat) (a c : Nat → Nat) (σ : SX) (sz : Nat) (q pl : Int32) (hI : yIs σ) (hpl : pl ≠ -1) : Met l yL_ready wsL_ready ({ frames := 8, cells := 2, slots := 12, locals := 134 }) (va_Pc [.ref h, .int q, .int pl] (yL G (yT k) (WS k h a c σ) sz)) (va_Qi (fun (r : Int32) (_ : Unit) => r = f_rap q pl σ) (fun _ _ => True) (fun q : Nat => sz ≤ q)) 2 12 (fun q : Nat => sz ≤ q) := by
  refine va_MetW (cc := cL_ready) (maxL := 4) (ret := (some .int)) (hh := [(0, 19, 20, 13), (0, 19, 25, 39)]) (by decide) rfl ?_
  intro p e s m args below meth c_ s₁ B hml hv
  obtain ⟨rfl, hsz, hP, hK, hV⟩ := hv
  have hE : yEV0 s s.heap := hV.1
  have hNC : yNC s := hV.2.1
  have hx := B.exec
  have hb := B.bytes
  have hr := B.returns
  have hts := atoms_spec (ws := wsL_ready) B.pre
  have hown : s.vm.findClass RL = some m.cls := findClass_of_methodNamed B.named
  have htab : c_.exceptionTable.toList = tableOf [(0, 19, 20, 13), (0, 19, 25, 39)] := vx_table (x := yL_ready) B (hts (.codeWith yL_ready cL_ready 4 (some .int) [(0, 19, 20, 13), (0, 19, 25, 39)]) List.mem_cons_self)
  have hlocks := B.notSynchronized
  subst hsz
  have hS : va_S (fun q : Nat => s.heap.size ≤ q) s.heap s.heap [] := va_S.rf
  have hP2 := hP
  have hl := lv_entry ([.ref h, .int q, .int pl]) (n := 4) (Nat.le_of_ble_eq_true rfl)
  rw [lg_entry_eq]
  generalize (lg_sl ([.ref h, .int q, .int pl]) ++ List.replicate (4 - (lg_sl ([.ref h, .int q, .int pl])).length) Slot.unset).toArray = ls at hl ⊢
  have hl : lv_has ls 4 [(0, .ref h), (1, .int q), (2, .int pl)] := hl
  refine lv_iload_n hx hb dL_ready_0 rfl (lv_at hl 2 rfl) ?_
  refine lv_iconst (v := (-1)) hx hb dL_ready_1 (by decide) ?_
  refine lv_icmp_ne (tgt := 13) hx hb dL_ready_2 (by decide) (fun _ => ?_) (fun c9 => absurd c9 hpl)
  refine lv_aload_n hx hb dL_ready_13 rfl (lv_at hl 0 rfl) ?_
  refine lv_iload_n hx hb dL_ready_14 rfl (lv_at hl 1 rfl) ?_
  refine lv_iload_n hx hb dL_ready_15 rfl (lv_at hl 2 rfl) ?_
  refine y_hread (mk := Value.int) yQi (vx_runV (As := [.int q, .int pl]) (rest := []) ⟨hx, hb, hml, hown, hts⟩ (c_X2_readyAtPlace l hl9 G k h a c σ.1 σ.2.1 σ.2.2.1 σ.2.2.2.1 σ.2.2.2.2.1 σ.2.2.2.2.2 q pl hI.2.1) (cwV 2 hts gL_ready_X2_readyAtPlace rfl rfl rfl (by decide +kernel) ⟨Nat.le_of_ble_eq_true rfl, Nat.le_of_ble_eq_true rfl⟩) ⟨yE_blind, va_recv hK hP2 (ci := 4) (q0 := 0) rfl rfl, fun U hU hW => ⟨rfl, by rw [hU]; exact hP2, va_K.moved hW.alike hK, yEV_at hE hU hW⟩⟩ rfl rfl hl.1 rfl (lv_room (Nat.le_of_ble_eq_true rfl)) dL_ready_16 ⟨Nat.le_of_ble_eq_true rfl, Nat.le_of_ble_eq_true rfl⟩) hS ?_ (fun r hp9 => ?_)
  · intro E ce q9 H1 locs1 hpx hk9 hS9 hce hcv hcl
    rcases hpx with ⟨rfl, hcd⟩ | ⟨rfl, hcd⟩
    · refine vx_catch (own := RL) (name := "java/lang/IllegalArgumentException") (E := "java/lang/IllegalArgumentException") (ce := ce) hown [] (⟨0, 19, 20, 13⟩ : ExceptionTableEntry) [(⟨0, 19, 25, 39⟩ : ExceptionTableEntry)] (by rw [htab]; rfl) (fun _ h => absurd h List.not_mem_nil) (by decide) (by decide) (hts (.classLink RL 13 "java/lang/IllegalArgumentException") (by decide +kernel)) (va_Nw.use rfl (hE.1 (.castable "java/lang/IllegalArgumentException" "java/lang/IllegalArgumentException") (by decide +kernel))) hce hcv hcl ?_
      refine lv_astore_n (lv' := [(3, .ref q9), (0, .ref h), (1, .int q), (2, .int pl)]) hx hb dL_ready_20 rfl hl (by decide) rfl (fun ls hl => ?_)
      refine lv_sipush (v := (-1001)) hx hb dL_ready_21 (by decide) ?_
      exact W.iret (v := (-1001)) hx hb hr (fun τ hτ hW => ⟨⟨_, (), rfl, (er_c hcd (by decide) (by decide)), trivial⟩, hS9.F hτ⟩) hS9.2.2 dL_ready_24
    · refine vx_catch (own := RL) (name := "java/util/NoSuchElementException") (E := "java/util/NoSuchElementException") (ce := ce) hown [(⟨0, 19, 20, 13⟩ : ExceptionTableEntry)] (⟨0, 19, 25, 39⟩ : ExceptionTableEntry) [] (by rw [htab]; rfl) (List.forall_mem_cons.mpr ⟨Or.inr ⟨by decide, "java/lang/IllegalArgumentException", hts (.classLink RL 13 "java/lang/IllegalArgumentException") (by decide +kernel), hNC ("java/util/NoSuchElementException", "java/lang/IllegalArgumentException") (by decide +kernel)⟩, fun _ h => absurd h List.not_mem_nil⟩) (by decide) (by decide) (hts (.classLink RL 39 "java/util/NoSuchElementException") (by decide +kernel)) (va_Nw.use rfl (hE.1 (.castable "java/util/NoSuchElementException" "java/util/NoSuchElementException") (by decide +kernel))) hce hcv hcl ?_
      refine lv_astore_n (lv' := [(3, .ref q9), (0, .ref h), (1, .int q), (2, .int pl)]) hx hb dL_ready_25 rfl hl (by decide) rfl (fun ls hl => ?_)
      refine lv_sipush (v := (-1002)) hx hb dL_ready_26 (by decide) ?_
      exact W.iret (v := (-1002)) hx hb hr (fun τ hτ hW => ⟨⟨_, (), rfl, (er_c hcd (by decide) (by decide)), trivial⟩, hS9.F hτ⟩) hS9.2.2 dL_ready_29
  · obtain ⟨hp8, hp9⟩ := hp9
    subst hp9
    exact W.iret (v := ((o_rapC q pl σ.2.2.1 σ.2.2.2.2.1 σ.2.2.2.2.2).2)) hx hb hr (fun τ hτ hW => ⟨⟨_, (), rfl, (er_0 hp8).symm, trivial⟩, hS.F hτ⟩) hS.2.2 dL_ready_19

set_option maxHeartbeats 4000000 in
set_option maxRecDepth 100000 in
theorem c_take (l : Launch) (hl9 : l.stackTraces = false) (G : va_G) (k : Nat → ClassId) (h : Nat) (a c : Nat → Nat) (σ : SX) (sz : Nat) (u q : Int32) (hND : va_D (fun _ => True) (WS k h a c σ)) (hI : yIs σ) : Met l yL_take wsL_take ({ frames := 8, cells := 3, slots := 18, locals := 133 }) (va_Pc [.ref h, .int u, .int q] (yL G (yT k) (WS k h a c σ) sz)) (va_Qi (fun (r : Int32) (_ : Unit) => r = f_take u q σ) (fun _ τ => va_P G vwCl (WS k h a c (g_take u q σ)) τ.heap) (va_A (WS k h a c σ) sz)) 3 18 (va_A (WS k h a c σ) sz) := by
  refine va_MetW (cc := cL_take) (maxL := 4) (ret := (some .int)) (hh := [(0, 6, 7, 13), (0, 6, 12, 15), (0, 6, 17, 39)]) (by decide) rfl ?_
  intro p e s m args below meth c_ s₁ B hml hv
  obtain ⟨rfl, hsz, hP, hK, hV⟩ := hv
  have hE : yEV0 s s.heap := hV.1
  have hNC : yNC s := hV.2.1
  have hx := B.exec
  have hb := B.bytes
  have hr := B.returns
  have hts := atoms_spec (ws := wsL_take) B.pre
  have hown : s.vm.findClass RL = some m.cls := findClass_of_methodNamed B.named
  have htab : c_.exceptionTable.toList = tableOf [(0, 6, 7, 13), (0, 6, 12, 15), (0, 6, 17, 39)] := vx_table (x := yL_take) B (hts (.codeWith yL_take cL_take 4 (some .int) [(0, 6, 7, 13), (0, 6, 12, 15), (0, 6, 17, 39)]) List.mem_cons_self)
  have hlocks := B.notSynchronized
  subst hsz
  have hD := hND.self (sz := s.heap.size)
  have hS : va_S (va_A (WS k h a c σ) s.heap.size) s.heap s.heap [] := va_S.rf
  have hP2 := hP
  have hl := lv_entry ([.ref h, .int u, .int q]) (n := 4) (Nat.le_of_ble_eq_true rfl)
  rw [lg_entry_eq]
  generalize (lg_sl ([.ref h, .int u, .int q]) ++ List.replicate (4 - (lg_sl ([.ref h, .int u, .int q])).length) Slot.unset).toArray = ls at hl ⊢
  have hl : lv_has ls 4 [(0, .ref h), (1, .int u), (2, .int q)] := hl
  refine lv_aload_n hx hb dL_take_0 rfl (lv_at hl 0 rfl) ?_
  refine lv_iload_n hx hb dL_take_1 rfl (lv_at hl 1 rfl) ?_
  refine lv_iload_n hx hb dL_take_2 rfl (lv_at hl 2 rfl) ?_
  refine y_hcall (vx_runV (As := [.int u, .int q]) (rest := []) ⟨hx, hb, hml, hown, hts⟩ (c_X2_take l hl9 G k h a c σ.1 σ.2.1 σ.2.2.1 σ.2.2.2.1 σ.2.2.2.2.1 σ.2.2.2.2.2 s.heap.size u q hND hI.2.1) (cwV 2 hts gL_take_X2_take rfl rfl rfl (by decide +kernel) ⟨Nat.le_of_ble_eq_true rfl, Nat.le_of_ble_eq_true rfl⟩) ⟨yEs_blind, va_recv hK hP2 (ci := 4) (q0 := 0) rfl rfl, fun U hU hW => ⟨rfl, by rw [hU], by rw [hU]; exact hP2, va_K.moved hW.alike hK, yEV_at hE hU hW⟩⟩ rfl rfl hl.1 rfl (lv_room (Nat.le_of_ble_eq_true rfl)) dL_take_3 ⟨Nat.le_of_ble_eq_true rfl, Nat.le_of_ble_eq_true rfl⟩) hS (fun q _ h => h) (fun q h => h) ?_ (fun r u9 t9 H1 locs1 ht9 hp9 hB9 hz9 hk9 hS9 => ?_)
  · intro E ce q9 H1 locs1 hpx hk9 hS9 hce hcv hcl
    rcases hpx with ⟨rfl, hcd⟩ | ⟨rfl, hcd⟩ | ⟨rfl, hcd⟩
    · refine vx_catch (own := RL) (name := "java/lang/IllegalArgumentException") (E := "java/lang/IllegalArgumentException") (ce := ce) hown [] (⟨0, 6, 7, 13⟩ : ExceptionTableEntry) [(⟨0, 6, 12, 15⟩ : ExceptionTableEntry), (⟨0, 6, 17, 39⟩ : ExceptionTableEntry)] (by rw [htab]; rfl) (fun _ h => absurd h List.not_mem_nil) (by decide) (by decide) (hts (.classLink RL 13 "java/lang/IllegalArgumentException") (by decide +kernel)) (va_Nw.use rfl (hE.1 (.castable "java/lang/IllegalArgumentException" "java/lang/IllegalArgumentException") (by decide +kernel))) hce hcv hcl ?_
      refine lv_astore_n (lv' := [(3, .ref q9), (0, .ref h), (1, .int u), (2, .int q)]) hx hb dL_take_7 rfl hl (by decide) rfl (fun ls hl => ?_)
      refine lv_sipush (v := (-1001)) hx hb dL_take_8 (by decide) ?_
      have hold := o_takeC_k (show ¬ (o_takeC u q σ.2.2.1 σ.2.2.2.2.1 σ.2.2.2.2.2).1 = 0 by rw [hcd]; decide)
      have hPf : va_P G vwCl (WS k h a c (g_take u q σ)) H1 := by
        have h9 := yKeep hP2 hk9
        have e9 : g_take u q σ = σ := by show (_, _, _, _, _, _) = σ; simp only [hold]
        rw [e9]; exact h9
      exact W.iret (v := (-1001)) hx hb hr (fun τ hτ hW => ⟨⟨_, (), rfl, (er_c hcd (by decide) (by decide)), yPt hPf hτ⟩, hS9.F hτ⟩) hS9.2.2 dL_take_11
    · refine vx_catch (own := RL) (name := "java/lang/IllegalStateException") (E := "java/lang/IllegalStateException") (ce := ce) hown [(⟨0, 6, 7, 13⟩ : ExceptionTableEntry)] (⟨0, 6, 12, 15⟩ : ExceptionTableEntry) [(⟨0, 6, 17, 39⟩ : ExceptionTableEntry)] (by rw [htab]; rfl) (List.forall_mem_cons.mpr ⟨Or.inr ⟨by decide, "java/lang/IllegalArgumentException", hts (.classLink RL 13 "java/lang/IllegalArgumentException") (by decide +kernel), hNC ("java/lang/IllegalStateException", "java/lang/IllegalArgumentException") (by decide +kernel)⟩, fun _ h => absurd h List.not_mem_nil⟩) (by decide) (by decide) (hts (.classLink RL 15 "java/lang/IllegalStateException") (by decide +kernel)) (va_Nw.use rfl (hE.1 (.castable "java/lang/IllegalStateException" "java/lang/IllegalStateException") (by decide +kernel))) hce hcv hcl ?_
      refine lv_astore_n (lv' := [(3, .ref q9), (0, .ref h), (1, .int u), (2, .int q)]) hx hb dL_take_12 rfl hl (by decide) rfl (fun ls hl => ?_)
      refine lv_sipush (v := (-1002)) hx hb dL_take_13 (by decide) ?_
      have hold := o_takeC_k (show ¬ (o_takeC u q σ.2.2.1 σ.2.2.2.2.1 σ.2.2.2.2.2).1 = 0 by rw [hcd]; decide)
      have hPf : va_P G vwCl (WS k h a c (g_take u q σ)) H1 := by
        have h9 := yKeep hP2 hk9
        have e9 : g_take u q σ = σ := by show (_, _, _, _, _, _) = σ; simp only [hold]
        rw [e9]; exact h9
      exact W.iret (v := (-1002)) hx hb hr (fun τ hτ hW => ⟨⟨_, (), rfl, (er_c hcd (by decide) (by decide)), yPt hPf hτ⟩, hS9.F hτ⟩) hS9.2.2 dL_take_16
    · refine vx_catch (own := RL) (name := "java/util/NoSuchElementException") (E := "java/util/NoSuchElementException") (ce := ce) hown [(⟨0, 6, 7, 13⟩ : ExceptionTableEntry), (⟨0, 6, 12, 15⟩ : ExceptionTableEntry)] (⟨0, 6, 17, 39⟩ : ExceptionTableEntry) [] (by rw [htab]; rfl) (List.forall_mem_cons.mpr ⟨Or.inr ⟨by decide, "java/lang/IllegalArgumentException", hts (.classLink RL 13 "java/lang/IllegalArgumentException") (by decide +kernel), hNC ("java/util/NoSuchElementException", "java/lang/IllegalArgumentException") (by decide +kernel)⟩, List.forall_mem_cons.mpr ⟨Or.inr ⟨by decide, "java/lang/IllegalStateException", hts (.classLink RL 15 "java/lang/IllegalStateException") (by decide +kernel), hNC ("java/util/NoSuchElementException", "java/lang/IllegalStateException") (by decide +kernel)⟩, fun _ h => absurd h List.not_mem_nil⟩⟩) (by decide) (by decide) (hts (.classLink RL 39 "java/util/NoSuchElementException") (by decide +kernel)) (va_Nw.use rfl (hE.1 (.castable "java/util/NoSuchElementException" "java/util/NoSuchElementException") (by decide +kernel))) hce hcv hcl ?_
      refine lv_astore_n (lv' := [(3, .ref q9), (0, .ref h), (1, .int u), (2, .int q)]) hx hb dL_take_17 rfl hl (by decide) rfl (fun ls hl => ?_)
      refine lv_sipush (v := (-1003)) hx hb dL_take_18 (by decide) ?_
      have hold := o_takeC_k (show ¬ (o_takeC u q σ.2.2.1 σ.2.2.2.2.1 σ.2.2.2.2.2).1 = 0 by rw [hcd]; decide)
      have hPf : va_P G vwCl (WS k h a c (g_take u q σ)) H1 := by
        have h9 := yKeep hP2 hk9
        have e9 : g_take u q σ = σ := by show (_, _, _, _, _, _) = σ; simp only [hold]
        rw [e9]; exact h9
      exact W.iret (v := (-1003)) hx hb hr (fun τ hτ hW => ⟨⟨_, (), rfl, (er_c hcd (by decide) (by decide)), yPt hPf hτ⟩, hS9.F hτ⟩) hS9.2.2 dL_take_21
  · obtain ⟨hp8, hp9⟩ := hp9
    have hPf : va_P G vwCl (WS k h a c (g_take u q σ)) H1 := by rw [← ht9]; exact hB9
    subst hp9
    exact W.iret (v := ((o_takeC u q σ.2.2.1 σ.2.2.2.2.1 σ.2.2.2.2.2).2.1)) hx hb hr (fun τ hτ hW => ⟨⟨_, (), rfl, (er_0 hp8).symm, yPt hPf hτ⟩, hS9.F hτ⟩) hS9.2.2 dL_take_6

set_option maxHeartbeats 4000000 in
set_option maxRecDepth 100000 in
theorem c_has (l : Launch) (hl9 : l.stackTraces = false) (G : va_G) (k : Nat → ClassId) (h : Nat) (a c : Nat → Nat) (σ : SX) (sz : Nat) (u : Int32) (hI : yIs σ) : Met l yL_told wsL_told ({ frames := 8, cells := 1, slots := 6, locals := 131 }) (va_Pc [.ref h, .int 99, .int u] (yL G (yT k) (WS k h a c σ) sz)) (va_Qi (fun (r : Int32) (_ : Unit) => r = f_has u σ) (fun _ _ => True) (fun q : Nat => sz ≤ q)) 1 6 (fun q : Nat => sz ≤ q) := by
  refine va_MetW (cc := cL_told) (maxL := 4) (ret := (some .int)) (hh := [(0, 34, 35, 13)]) (by decide) rfl ?_
  intro p e s m args below meth c_ s₁ B hml hv
  obtain ⟨rfl, hsz, hP, hK, hV⟩ := hv
  have hE : yEV0 s s.heap := hV.1
  have hNC : yNC s := hV.2.1
  have hx := B.exec
  have hb := B.bytes
  have hr := B.returns
  have hts := atoms_spec (ws := wsL_told) B.pre
  have hown : s.vm.findClass RL = some m.cls := findClass_of_methodNamed B.named
  have htab : c_.exceptionTable.toList = tableOf [(0, 34, 35, 13)] := vx_table (x := yL_told) B (hts (.codeWith yL_told cL_told 4 (some .int) [(0, 34, 35, 13)]) List.mem_cons_self)
  have hlocks := B.notSynchronized
  subst hsz
  have hS : va_S (fun q : Nat => s.heap.size ≤ q) s.heap s.heap [] := va_S.rf
  have hP2 := hP
  have hl := lv_entry ([.ref h, .int 99, .int u]) (n := 4) (Nat.le_of_ble_eq_true rfl)
  rw [lg_entry_eq]
  generalize (lg_sl ([.ref h, .int 99, .int u]) ++ List.replicate (4 - (lg_sl ([.ref h, .int 99, .int u])).length) Slot.unset).toArray = ls at hl ⊢
  have hl : lv_has ls 4 [(0, .ref h), (1, .int 99), (2, .int u)] := hl
  refine lv_iload_n hx hb dL_told_0 rfl (lv_at hl 1 rfl) ?_
  refine lv_bipush (v := 99) hx hb dL_told_1 (by decide) ?_
  refine lv_icmp_ne (tgt := 14) hx hb dL_told_3 (by decide) (fun c9 => absurd c9 (by decide)) (fun _ => ?_)
  refine lv_aload_n hx hb dL_told_6 rfl (lv_at hl 0 rfl) ?_
  refine lv_iload_n hx hb dL_told_7 rfl (lv_at hl 2 rfl) ?_
  refine y_hread (mk := Value.int) yQi (vx_runV (As := [.int u]) (rest := []) ⟨hx, hb, hml, hown, hts⟩ (c_X2_has l hl9 G k h a c σ.1 σ.2.1 σ.2.2.1 σ.2.2.2.1 σ.2.2.2.2.1 σ.2.2.2.2.2 u hI.2.1) (cwV 1 hts gL_told_X2_has rfl rfl rfl (by decide +kernel) ⟨Nat.le_of_ble_eq_true rfl, Nat.le_of_ble_eq_true rfl⟩) ⟨yE_blind, va_recv hK hP2 (ci := 4) (q0 := 0) rfl rfl, fun U hU hW => ⟨rfl, by rw [hU]; exact hP2, va_K.moved hW.alike hK, yEV_at hE hU hW⟩⟩ rfl rfl hl.1 rfl (lv_room (Nat.le_of_ble_eq_true rfl)) dL_told_8 ⟨Nat.le_of_ble_eq_true rfl, Nat.le_of_ble_eq_true rfl⟩) hS ?_ (fun r hp9 => ?_)
  · intro E ce q9 H1 locs1 hpx hk9 hS9 hce hcv hcl
    rcases hpx with ⟨rfl, hcd⟩
    · refine vx_catch (own := RL) (name := "java/lang/IllegalArgumentException") (E := "java/lang/IllegalArgumentException") (ce := ce) hown [] (⟨0, 34, 35, 13⟩ : ExceptionTableEntry) [] (by rw [htab]; rfl) (fun _ h => absurd h List.not_mem_nil) (by decide) (by decide) (hts (.classLink RL 13 "java/lang/IllegalArgumentException") (by decide +kernel)) (va_Nw.use rfl (hE.1 (.castable "java/lang/IllegalArgumentException" "java/lang/IllegalArgumentException") (by decide +kernel))) hce hcv hcl ?_
      refine lv_astore_n (lv' := [(3, .ref q9), (0, .ref h), (1, .int 99), (2, .int u)]) hx hb dL_told_35 rfl hl (by decide) rfl (fun ls hl => ?_)
      refine lv_sipush (v := (-1001)) hx hb dL_told_36 (by decide) ?_
      exact W.iret (v := (-1001)) hx hb hr (fun τ hτ hW => ⟨⟨_, (), rfl, (er_c hcd (by decide) (by decide)), trivial⟩, hS9.F hτ⟩) hS9.2.2 dL_told_39
  · obtain ⟨hp8, hp9⟩ := hp9
    subst hp9
    refine lv_goto (tgt := 34) hx hb dL_told_11 (by decide) ?_
    exact W.iret (v := ((o_has u σ.2.2.1 σ.2.2.2.2.1).2)) hx hb hr (fun τ hτ hW => ⟨⟨_, (), rfl, (er_0 hp8).symm, trivial⟩, hS.F hτ⟩) hS.2.2 dL_told_34

set_option maxHeartbeats 4000000 in
set_option maxRecDepth 100000 in
theorem c_pass (l : Launch) (hl9 : l.stackTraces = false) (G : va_G) (k : Nat → ClassId) (h : Nat) (a c : Nat → Nat) (σ : SX) (sz : Nat) (dd : Int32) (hND : va_D (fun _ => True) (WS k h a c σ)) (hI : yIs σ) : Met l yL_told wsL_told ({ frames := 7, cells := 1, slots := 6, locals := 113 }) (va_Pc [.ref h, .int 112, .int dd] (yL G (yT k) (WS k h a c σ) sz)) (va_Qi (fun (r : Int32) (_ : Unit) => r = f_pass dd σ) (fun _ τ => va_P G vwCl (WS k h a c (g_pass dd σ)) τ.heap) (va_A (WS k h a c σ) sz)) 1 6 (va_A (WS k h a c σ) sz) := by
  refine va_MetW (cc := cL_told) (maxL := 4) (ret := (some .int)) (hh := [(0, 34, 35, 13)]) (by decide) rfl ?_
  intro p e s m args below meth c_ s₁ B hml hv
  obtain ⟨rfl, hsz, hP, hK, hV⟩ := hv
  have hE : yEV0 s s.heap := hV.1
  have hNC : yNC s := hV.2.1
  have hx := B.exec
  have hb := B.bytes
  have hr := B.returns
  have hts := atoms_spec (ws := wsL_told) B.pre
  have hown : s.vm.findClass RL = some m.cls := findClass_of_methodNamed B.named
  have htab : c_.exceptionTable.toList = tableOf [(0, 34, 35, 13)] := vx_table (x := yL_told) B (hts (.codeWith yL_told cL_told 4 (some .int) [(0, 34, 35, 13)]) List.mem_cons_self)
  have hlocks := B.notSynchronized
  subst hsz
  have hD := hND.self (sz := s.heap.size)
  have hS : va_S (va_A (WS k h a c σ) s.heap.size) s.heap s.heap [] := va_S.rf
  have hP2 := hP
  have hl := lv_entry ([.ref h, .int 112, .int dd]) (n := 4) (Nat.le_of_ble_eq_true rfl)
  rw [lg_entry_eq]
  generalize (lg_sl ([.ref h, .int 112, .int dd]) ++ List.replicate (4 - (lg_sl ([.ref h, .int 112, .int dd])).length) Slot.unset).toArray = ls at hl ⊢
  have hl : lv_has ls 4 [(0, .ref h), (1, .int 112), (2, .int dd)] := hl
  refine lv_iload_n hx hb dL_told_0 rfl (lv_at hl 1 rfl) ?_
  refine lv_bipush (v := 99) hx hb dL_told_1 (by decide) ?_
  refine lv_icmp_ne (tgt := 14) hx hb dL_told_3 (by decide) (fun _ => ?_) (fun c9 => absurd c9 (by decide))
  refine lv_iload_n hx hb dL_told_14 rfl (lv_at hl 1 rfl) ?_
  refine lv_bipush (v := 112) hx hb dL_told_15 (by decide) ?_
  refine lv_icmp_ne (tgt := 28) hx hb dL_told_17 (by decide) (fun c9 => absurd c9 (by decide)) (fun _ => ?_)
  refine lv_aload_n hx hb dL_told_20 rfl (lv_at hl 0 rfl) ?_
  refine lv_iload_n hx hb dL_told_21 rfl (lv_at hl 2 rfl) ?_
  refine y_hcall (vx_runV (As := [.int dd]) (rest := []) ⟨hx, hb, hml, hown, hts⟩ (c_X2_pass l hl9 G k h a c σ.1 σ.2.1 σ.2.2.1 σ.2.2.2.1 σ.2.2.2.2.1 σ.2.2.2.2.2 s.heap.size dd hND hI.1 hI.2.1) (cwV 1 hts gL_told_X2_pass rfl rfl rfl (by decide +kernel) ⟨Nat.le_of_ble_eq_true rfl, Nat.le_of_ble_eq_true rfl⟩) ⟨yEs_blind, va_recv hK hP2 (ci := 4) (q0 := 0) rfl rfl, fun U hU hW => ⟨rfl, by rw [hU], by rw [hU]; exact hP2, va_K.moved hW.alike hK, yEV_at hE hU hW⟩⟩ rfl rfl hl.1 rfl (lv_room (Nat.le_of_ble_eq_true rfl)) dL_told_22 ⟨Nat.le_of_ble_eq_true rfl, Nat.le_of_ble_eq_true rfl⟩) hS (fun q _ h => h) (fun q h => h) ?_ (fun r u9 t9 H1 locs1 ht9 hp9 hB9 hz9 hk9 hS9 => ?_)
  · intro E ce q9 H1 locs1 hpx hk9 hS9 hce hcv hcl
    rcases hpx with ⟨rfl, hcd⟩
    · refine vx_catch (own := RL) (name := "java/lang/IllegalArgumentException") (E := "java/lang/IllegalArgumentException") (ce := ce) hown [] (⟨0, 34, 35, 13⟩ : ExceptionTableEntry) [] (by rw [htab]; rfl) (fun _ h => absurd h List.not_mem_nil) (by decide) (by decide) (hts (.classLink RL 13 "java/lang/IllegalArgumentException") (by decide +kernel)) (va_Nw.use rfl (hE.1 (.castable "java/lang/IllegalArgumentException" "java/lang/IllegalArgumentException") (by decide +kernel))) hce hcv hcl ?_
      refine lv_astore_n (lv' := [(3, .ref q9), (0, .ref h), (1, .int 112), (2, .int dd)]) hx hb dL_told_35 rfl hl (by decide) rfl (fun ls hl => ?_)
      refine lv_sipush (v := (-1001)) hx hb dL_told_36 (by decide) ?_
      have hold := o_passC_k (show ¬ (o_passC dd σ.1 σ.2.1 σ.2.2.1 σ.2.2.2.2.1 σ.2.2.2.2.2).1 = 0 by rw [hcd]; decide)
      have hPf : va_P G vwCl (WS k h a c (g_pass dd σ)) H1 := by
        have h9 := yKeep hP2 hk9
        have e9 : g_pass dd σ = σ := by show (_, _, _, _, _, _) = σ; simp only [hold]
        rw [e9]; exact h9
      exact W.iret (v := (-1001)) hx hb hr (fun τ hτ hW => ⟨⟨_, (), rfl, (er_c hcd (by decide) (by decide)), yPt hPf hτ⟩, hS9.F hτ⟩) hS9.2.2 dL_told_39
  · obtain ⟨hp8, hp9⟩ := hp9
    have hPf : va_P G vwCl (WS k h a c (g_pass dd σ)) H1 := by rw [← ht9]; exact hB9
    subst hp9
    refine lv_goto (tgt := 34) hx hb dL_told_25 (by decide) ?_
    exact W.iret (v := (nI (o_passC dd σ.1 σ.2.1 σ.2.2.1 σ.2.2.2.2.1 σ.2.2.2.2.2).2.1.1)) hx hb hr (fun τ hτ hW => ⟨⟨_, (), rfl, (er_0 hp8).symm, yPt hPf hτ⟩, hS9.F hτ⟩) hS9.2.2 dL_told_34

set_option maxHeartbeats 4000000 in
set_option maxRecDepth 100000 in
theorem c_cnt (l : Launch) (hl9 : l.stackTraces = false) (G : va_G) (k : Nat → ClassId) (h : Nat) (a c : Nat → Nat) (σ : SX) (sz : Nat) (v : Int32) (hI : yIs σ) (hv9 : (v.toUInt32 % 65536).toInt32 = v) : Met l yL_told wsL_told ({ frames := 7, cells := 1, slots := 6, locals := 111 }) (va_Pc [.ref h, .int 115, .int v] (yL G (yT k) (WS k h a c σ) sz)) (va_Qi (fun (r : Int32) (_ : Unit) => r = f_cnt v σ) (fun _ _ => True) (fun q : Nat => sz ≤ q)) 1 6 (fun q : Nat => sz ≤ q) := by
  refine va_MetW (cc := cL_told) (maxL := 4) (ret := (some .int)) (hh := [(0, 34, 35, 13)]) (by decide) rfl ?_
  intro p e s m args below meth c_ s₁ B hml hv
  obtain ⟨rfl, hsz, hP, hK, hV⟩ := hv
  have hE : yEV0 s s.heap := hV.1
  have hNC : yNC s := hV.2.1
  have hx := B.exec
  have hb := B.bytes
  have hr := B.returns
  have hts := atoms_spec (ws := wsL_told) B.pre
  have hown : s.vm.findClass RL = some m.cls := findClass_of_methodNamed B.named
  have htab : c_.exceptionTable.toList = tableOf [(0, 34, 35, 13)] := vx_table (x := yL_told) B (hts (.codeWith yL_told cL_told 4 (some .int) [(0, 34, 35, 13)]) List.mem_cons_self)
  have hlocks := B.notSynchronized
  subst hsz
  have hS : va_S (fun q : Nat => s.heap.size ≤ q) s.heap s.heap [] := va_S.rf
  have hP2 := hP
  have hl := lv_entry ([.ref h, .int 115, .int v]) (n := 4) (Nat.le_of_ble_eq_true rfl)
  rw [lg_entry_eq]
  generalize (lg_sl ([.ref h, .int 115, .int v]) ++ List.replicate (4 - (lg_sl ([.ref h, .int 115, .int v])).length) Slot.unset).toArray = ls at hl ⊢
  have hl : lv_has ls 4 [(0, .ref h), (1, .int 115), (2, .int v)] := hl
  refine lv_iload_n hx hb dL_told_0 rfl (lv_at hl 1 rfl) ?_
  refine lv_bipush (v := 99) hx hb dL_told_1 (by decide) ?_
  refine lv_icmp_ne (tgt := 14) hx hb dL_told_3 (by decide) (fun _ => ?_) (fun c9 => absurd c9 (by decide))
  refine lv_iload_n hx hb dL_told_14 rfl (lv_at hl 1 rfl) ?_
  refine lv_bipush (v := 112) hx hb dL_told_15 (by decide) ?_
  refine lv_icmp_ne (tgt := 28) hx hb dL_told_17 (by decide) (fun _ => ?_) (fun c9 => absurd c9 (by decide))
  refine lv_aload_n hx hb dL_told_28 rfl (lv_at hl 0 rfl) ?_
  refine lv_iload_n hx hb dL_told_29 rfl (lv_at hl 2 rfl) ?_
  refine lv_i2c (v := v) hx hb dL_told_30 hv9 ?_
  refine y_hread (mk := Value.int) yQi (vx_runV (As := [.int v]) (rest := []) ⟨hx, hb, hml, hown, hts⟩ (c_X2_count l hl9 G k h a c σ.1 σ.2.1 σ.2.2.1 σ.2.2.2.1 σ.2.2.2.2.1 σ.2.2.2.2.2 v hI.2.1) (cwV 1 hts gL_told_X2_count rfl rfl rfl (by decide +kernel) ⟨Nat.le_of_ble_eq_true rfl, Nat.le_of_ble_eq_true rfl⟩) ⟨yE_blind, va_recv hK hP2 (ci := 4) (q0 := 0) rfl rfl, fun U hU hW => ⟨rfl, by rw [hU]; exact hP2, va_K.moved hW.alike hK, yEV_at hE hU hW⟩⟩ rfl rfl hl.1 rfl (lv_room (Nat.le_of_ble_eq_true rfl)) dL_told_31 ⟨Nat.le_of_ble_eq_true rfl, Nat.le_of_ble_eq_true rfl⟩) hS ?_ (fun r hp9 => ?_)
  · intro E ce q9 H1 locs1 hpx hk9 hS9 hce hcv hcl
    rcases hpx with ⟨rfl, hcd⟩
    · refine vx_catch (own := RL) (name := "java/lang/IllegalArgumentException") (E := "java/lang/IllegalArgumentException") (ce := ce) hown [] (⟨0, 34, 35, 13⟩ : ExceptionTableEntry) [] (by rw [htab]; rfl) (fun _ h => absurd h List.not_mem_nil) (by decide) (by decide) (hts (.classLink RL 13 "java/lang/IllegalArgumentException") (by decide +kernel)) (va_Nw.use rfl (hE.1 (.castable "java/lang/IllegalArgumentException" "java/lang/IllegalArgumentException") (by decide +kernel))) hce hcv hcl ?_
      refine lv_astore_n (lv' := [(3, .ref q9), (0, .ref h), (1, .int 115), (2, .int v)]) hx hb dL_told_35 rfl hl (by decide) rfl (fun ls hl => ?_)
      refine lv_sipush (v := (-1001)) hx hb dL_told_36 (by decide) ?_
      exact W.iret (v := (-1001)) hx hb hr (fun τ hτ hW => ⟨⟨_, (), rfl, (er_c hcd (by decide) (by decide)), trivial⟩, hS9.F hτ⟩) hS9.2.2 dL_told_39
  · obtain ⟨hp8, hp9⟩ := hp9
    subst hp9
    exact W.iret (v := ((o_count v σ.2.2.1 σ.2.2.2.2.1).2)) hx hb hr (fun τ hτ hW => ⟨⟨_, (), rfl, (er_0 hp8).symm, trivial⟩, hS.F hτ⟩) hS.2.2 dL_told_34

set_option maxHeartbeats 4000000 in
set_option maxRecDepth 100000 in
theorem c_share (l : Launch) (hl9 : l.stackTraces = false) (G : va_G) (k : Nat → ClassId) (h : Nat) (a c : Nat → Nat) (σ : SX) (sz : Nat)  (hI : yIs σ) : Met l yL_share wsL_share ({ frames := 7, cells := 1, slots := 6, locals := 110 }) (va_Pc [.ref h] (yL G (yT k) (WS k h a c σ) sz)) (va_Qf (fun (r : UInt32) (_ : Unit) => r = f_share σ) (fun _ _ => True) (fun q : Nat => sz ≤ q)) 1 6 (fun q : Nat => sz ≤ q) := by
  refine va_MetW (cc := cL_share) (maxL := 2) (ret := (some .float)) (hh := [(0, 4, 5, 96)]) (by decide) rfl ?_
  intro p e s m args below meth c_ s₁ B hml hv
  obtain ⟨rfl, hsz, hP, hK, hV⟩ := hv
  have hE : yEV0 s s.heap := hV.1
  have hNC : yNC s := hV.2.1
  have hx := B.exec
  have hb := B.bytes
  have hr := B.returns
  have hts := atoms_spec (ws := wsL_share) B.pre
  have hown : s.vm.findClass RL = some m.cls := findClass_of_methodNamed B.named
  have htab : c_.exceptionTable.toList = tableOf [(0, 4, 5, 96)] := vx_table (x := yL_share) B (hts (.codeWith yL_share cL_share 2 (some .float) [(0, 4, 5, 96)]) List.mem_cons_self)
  have hlocks := B.notSynchronized
  subst hsz
  have hS : va_S (fun q : Nat => s.heap.size ≤ q) s.heap s.heap [] := va_S.rf
  have hP2 := hP
  have hl := lv_entry ([.ref h]) (n := 2) (Nat.le_of_ble_eq_true rfl)
  rw [lg_entry_eq]
  generalize (lg_sl ([.ref h]) ++ List.replicate (2 - (lg_sl ([.ref h])).length) Slot.unset).toArray = ls at hl ⊢
  have hl : lv_has ls 2 [(0, .ref h)] := hl
  refine lv_aload_n hx hb dL_share_0 rfl (lv_at hl 0 rfl) ?_
  refine y_hread (mk := Value.float) yQf (vx_runV (As := []) (rest := []) ⟨hx, hb, hml, hown, hts⟩ (c_X2_doneShare l hl9 G k h a c σ.1 σ.2.1 σ.2.2.1 σ.2.2.2.1 σ.2.2.2.2.1 σ.2.2.2.2.2  hI.2.1) (cwV 0 hts gL_share_X2_doneShare rfl rfl rfl (by decide +kernel) ⟨Nat.le_of_ble_eq_true rfl, Nat.le_of_ble_eq_true rfl⟩) ⟨yE_blind, va_recv hK hP2 (ci := 4) (q0 := 0) rfl rfl, fun U hU hW => ⟨rfl, by rw [hU]; exact hP2, va_K.moved hW.alike hK, yEV_at hE hU hW⟩⟩ rfl rfl hl.1 rfl (lv_room (Nat.le_of_ble_eq_true rfl)) dL_share_1 ⟨Nat.le_of_ble_eq_true rfl, Nat.le_of_ble_eq_true rfl⟩) hS ?_ (fun r hp9 => ?_)
  · intro E ce q9 H1 locs1 hpx hk9 hS9 hce hcv hcl
    rcases hpx with ⟨rfl, hcd⟩
    · refine vx_catch (own := RL) (name := "java/lang/ArithmeticException") (E := "java/lang/ArithmeticException") (ce := ce) hown [] (⟨0, 4, 5, 96⟩ : ExceptionTableEntry) [] (by rw [htab]; rfl) (fun _ h => absurd h List.not_mem_nil) (by decide) (by decide) (hts (.classLink RL 96 "java/lang/ArithmeticException") (by decide +kernel)) (va_Nw.use rfl (hE.1 (.castable "java/lang/ArithmeticException" "java/lang/ArithmeticException") (by decide +kernel))) hce hcv hcl ?_
      refine lv_astore_n (lv' := [(1, .ref q9), (0, .ref h)]) hx hb dL_share_5 rfl hl (by decide) rfl (fun ls hl => ?_)
      refine lv_ldcf (v := 3212836864) hx hb hown (hts (.constantFloat RL 98 3212836864) (by decide +kernel)) dL_share_6 ?_
      exact W.fret (v := 3212836864) hx hb hr (fun τ hτ hW => ⟨⟨_, (), rfl, (if_neg (by rw [hcd]; decide)).symm, trivial⟩, hS9.F hτ⟩) hS9.2.2 dL_share_8
  · obtain ⟨hp8, hp9⟩ := hp9
    subst hp9
    exact W.fret (v := ((o_share σ.2.2.1 σ.2.2.2.2.1).2)) hx hb hr (fun τ hτ hW => ⟨⟨_, (), rfl, (if_pos hp8).symm, trivial⟩, hS.F hτ⟩) hS.2.2 dL_share_4
