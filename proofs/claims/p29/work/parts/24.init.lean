theorem ySame {G : va_G} {tys : List (ClassId × FieldType)} {s : State} (hK : va_K G vwCl tys s) {i j : Nat} {c1 c2 : ClassId} {ty : FieldType} (h1 : tys[i]? = some (c1, ty)) (h2 : tys[j]? = some (c2, ty)) (hp : (match ty with | .object _ => false | _ => true) = true) : c1 = c2 := by
  have a1 := (hK.2 i _ h1).2
  have a2 := (hK.2 j _ h2).2
  cases ty with
  | object C => cases hp
  | _ => exact Option.some.inj ((show s.vm.findClass _ = some c1 from a1).symm.trans (show s.vm.findClass _ = some c2 from a2))
set_option maxHeartbeats 4000000 in
set_option maxRecDepth 100000 in
theorem c_X0_init (l : Launch) (G : va_G) (h0 : Nat) (sz : Nat) : Met l yX0_init wsX0_init ({ frames := 1, cells := 6, slots := 48, locals := 12 }) (va_Pc [.ref h0] (fun U => U.heap.size = sz ∧ va_P G vwCl [(h0, .inr (2, [.null, .null, .null, .null, .null, .null, .int 0]))] U.heap ∧ va_K G vwCl [] U ∧ va_D (fun _ => True) [(h0, .inr (2, [.null, .null, .null, .null, .null, .null, .int 0]))])) (va_Qv (fun u : (Nat → ClassId) × (Nat → Nat) => u.2 0 = h0) (fun u τ => va_P G vwCl (W0 u.1 u.2 (fun _ _ => 0) 0) τ.heap ∧ va_K G vwCl [(u.1 0, .int), (u.1 1, .boolean)] τ ∧ va_D (va_A [(h0, .inr (2, [.null, .null, .null, .null, .null, .null, .int 0]))] sz) (W0 u.1 u.2 (fun _ _ => 0) 0)) (va_A [(h0, .inr (2, [.null, .null, .null, .null, .null, .null, .int 0]))] sz)) 6 48 (va_A [(h0, .inr (2, [.null, .null, .null, .null, .null, .null, .int 0]))] sz) := by
  refine Met.ofW (cc := cX0_init) (maxL := 1) (ret := none) (by decide) rfl ?_
  intro p e s m args below meth c_ s₁ B hml hv
  obtain ⟨rfl, hsz, hP, hK, hD0⟩ := hv
  have hx := B.exec
  have hb := B.bytes
  have hr := B.returns
  have hts := atoms_spec (ws := wsX0_init) B.pre
  have hown : s.vm.findClass RX0 = some m.cls := findClass_of_methodNamed B.named
  have hlocks := B.notSynchronized
  have hin : meth.name = "<init>" := (name_of_methodNamed B.named B.method).1
  subst hsz
  have hD := hD0.self (sz := s.heap.size)
  generalize hAe : va_A [(h0, .inr (2, [.null, .null, .null, .null, .null, .null, .int 0]))] s.heap.size = A at hD ⊢
  have hA : ∀ q : Nat, s.heap.size ≤ q → A q := fun q h => by rw [← hAe]; exact Or.inr h
  have hS : va_S A s.heap s.heap [] := va_S.rf
  have hin9 : ∀ w ∈ u_ws RX0 TX0 7, w ∈ wsX0_init := by decide +kernel
  have hl := lv_entry ([.ref h0]) (n := 1) (Nat.le_of_ble_eq_true rfl)
  rw [lg_entry_eq]
  generalize (lg_sl ([.ref h0]) ++ List.replicate (1 - (lg_sl ([.ref h0])).length) Slot.unset).toArray = ls at hl ⊢
  have hl : lv_has ls 1 [(0, .ref h0)] := hl
  refine lv_aload_n hx hb dX0_init_0 rfl (lv_at hl 0 rfl) ?_
  refine W.objInit hx hb hown (hts (.methodLink RX0 3 objectInit) (by decide +kernel)) (hts (.instanceMethod objectInit) (by decide +kernel)) (hts (.code objectInit ⟨#[0xb1]⟩ 1 none) (by decide +kernel)) rfl (by rw [hml]; exact hl.1) rfl dX0_init_1 (Nat.le_of_ble_eq_true rfl) (Nat.le_of_ble_eq_true rfl) ?_
  refine W.eq (g2 := F0 m 4 ls []) rfl ?_
  refine lv_aload_n hx hb dX0_init_4 rfl (lv_at hl 0 rfl) ?_
  refine lv_bipush (v := 8) hx hb dX0_init_5 (by decide) ?_
  refine va_newa (atype := .int) (n := 8) (N' := 8) (a0 := (8, .inl (fun _ => 0))) hx hb (hts (.arrayClass .int) (by decide +kernel)) rfl hK hP hD hS hA (fun _ => rfl) (by decide) rfl (by decide) (Nat.le_of_ble_eq_true rfl) (Nat.le_of_ble_eq_true rfl) dX0_init_7 (fun q0 cN H hK hP hD hS => ?_)
  obtain ⟨cI, rfl⟩ : ∃ z, z = cN := ⟨cN, rfl⟩
  have hK : va_K G vwCl [(cI, .int)] s := hK
  have hP : va_P G vwCl [(h0, .inr (2, [.null, .null, .null, .null, .null, .null, .int 0])), (q0, .inl (cI, 8, .inl (fun _ => 0)))] H := hP
  have hD : va_D A [(h0, .inr (2, [.null, .null, .null, .null, .null, .null, .int 0])), (q0, .inl (cI, 8, .inl (fun _ => 0)))] := hD
  refine va_putF (D := G) (ci := 2) (v := .ref q0) (ty := .array .int) (C := RX0) (T := TX0) (N := 7) hx hb hts hin9 tyX0 tyX0_ok nmX0 hown hK hP hD hS 0 rfl rfl 0 (by decide) (hts (.fieldLink RX0 9 "DunningDesk$CaseBook" "firstAmounts" "[I") (by decide +kernel)) (fun _ h9 => h9) rfl hin rfl (by decide +kernel) rfl rfl (Nat.le_of_ble_eq_true rfl) dX0_init_9 (fun H locs hP hD hS => ?_)
  have hP : va_P G vwCl [(h0, .inr (2, [.ref q0, .null, .null, .null, .null, .null, .int 0])), (q0, .inl (cI, 8, .inl (fun _ => 0)))] H := hP
  have hD : va_D A [(h0, .inr (2, [.ref q0, .null, .null, .null, .null, .null, .int 0])), (q0, .inl (cI, 8, .inl (fun _ => 0)))] := hD
  refine lv_aload_n hx hb dX0_init_12 rfl (lv_at hl 0 rfl) ?_
  refine lv_bipush (v := 8) hx hb dX0_init_13 (by decide) ?_
  refine va_newa (atype := .int) (n := 8) (N' := 8) (a0 := (8, .inl (fun _ => 0))) hx hb (hts (.arrayClass .int) (by decide +kernel)) rfl hK hP hD hS hA (fun _ => rfl) (by decide) rfl (by decide) (Nat.le_of_ble_eq_true rfl) (Nat.le_of_ble_eq_true rfl) dX0_init_15 (fun q1 cN H hK hP hD hS => ?_)
  obtain rfl : cI = cN := ySame hK (j := 1) (i := 0) (ty := .int) rfl rfl rfl
  have hK : va_K G vwCl [(cI, .int)] s := hK.sub [0] rfl
  have hP : va_P G vwCl [(h0, .inr (2, [.ref q0, .null, .null, .null, .null, .null, .int 0])), (q0, .inl (cI, 8, .inl (fun _ => 0))), (q1, .inl (cI, 8, .inl (fun _ => 0)))] H := hP
  have hD : va_D A [(h0, .inr (2, [.ref q0, .null, .null, .null, .null, .null, .int 0])), (q0, .inl (cI, 8, .inl (fun _ => 0))), (q1, .inl (cI, 8, .inl (fun _ => 0)))] := hD
  refine va_putF (D := G) (ci := 2) (v := .ref q1) (ty := .array .int) (C := RX0) (T := TX0) (N := 7) hx hb hts hin9 tyX0 tyX0_ok nmX0 hown hK hP hD hS 0 rfl rfl 1 (by decide) (hts (.fieldLink RX0 15 "DunningDesk$CaseBook" "amounts" "[I") (by decide +kernel)) (fun _ h9 => h9) rfl hin rfl (by decide +kernel) rfl rfl (Nat.le_of_ble_eq_true rfl) dX0_init_17 (fun H locs hP hD hS => ?_)
  have hP : va_P G vwCl [(h0, .inr (2, [.ref q0, .ref q1, .null, .null, .null, .null, .int 0])), (q0, .inl (cI, 8, .inl (fun _ => 0))), (q1, .inl (cI, 8, .inl (fun _ => 0)))] H := hP
  have hD : va_D A [(h0, .inr (2, [.ref q0, .ref q1, .null, .null, .null, .null, .int 0])), (q0, .inl (cI, 8, .inl (fun _ => 0))), (q1, .inl (cI, 8, .inl (fun _ => 0)))] := hD
  refine lv_aload_n hx hb dX0_init_20 rfl (lv_at hl 0 rfl) ?_
  refine lv_bipush (v := 8) hx hb dX0_init_21 (by decide) ?_
  refine va_newa (atype := .int) (n := 8) (N' := 8) (a0 := (8, .inl (fun _ => 0))) hx hb (hts (.arrayClass .int) (by decide +kernel)) rfl hK hP hD hS hA (fun _ => rfl) (by decide) rfl (by decide) (Nat.le_of_ble_eq_true rfl) (Nat.le_of_ble_eq_true rfl) dX0_init_23 (fun q2 cN H hK hP hD hS => ?_)
  obtain rfl : cI = cN := ySame hK (j := 1) (i := 0) (ty := .int) rfl rfl rfl
  have hK : va_K G vwCl [(cI, .int)] s := hK.sub [0] rfl
  have hP : va_P G vwCl [(h0, .inr (2, [.ref q0, .ref q1, .null, .null, .null, .null, .int 0])), (q0, .inl (cI, 8, .inl (fun _ => 0))), (q1, .inl (cI, 8, .inl (fun _ => 0))), (q2, .inl (cI, 8, .inl (fun _ => 0)))] H := hP
  have hD : va_D A [(h0, .inr (2, [.ref q0, .ref q1, .null, .null, .null, .null, .int 0])), (q0, .inl (cI, 8, .inl (fun _ => 0))), (q1, .inl (cI, 8, .inl (fun _ => 0))), (q2, .inl (cI, 8, .inl (fun _ => 0)))] := hD
  refine va_putF (D := G) (ci := 2) (v := .ref q2) (ty := .array .int) (C := RX0) (T := TX0) (N := 7) hx hb hts hin9 tyX0 tyX0_ok nmX0 hown hK hP hD hS 0 rfl rfl 2 (by decide) (hts (.fieldLink RX0 18 "DunningDesk$CaseBook" "dueDays" "[I") (by decide +kernel)) (fun _ h9 => h9) rfl hin rfl (by decide +kernel) rfl rfl (Nat.le_of_ble_eq_true rfl) dX0_init_25 (fun H locs hP hD hS => ?_)
  have hP : va_P G vwCl [(h0, .inr (2, [.ref q0, .ref q1, .ref q2, .null, .null, .null, .int 0])), (q0, .inl (cI, 8, .inl (fun _ => 0))), (q1, .inl (cI, 8, .inl (fun _ => 0))), (q2, .inl (cI, 8, .inl (fun _ => 0)))] H := hP
  have hD : va_D A [(h0, .inr (2, [.ref q0, .ref q1, .ref q2, .null, .null, .null, .int 0])), (q0, .inl (cI, 8, .inl (fun _ => 0))), (q1, .inl (cI, 8, .inl (fun _ => 0))), (q2, .inl (cI, 8, .inl (fun _ => 0)))] := hD
  refine lv_aload_n hx hb dX0_init_28 rfl (lv_at hl 0 rfl) ?_
  refine lv_bipush (v := 8) hx hb dX0_init_29 (by decide) ?_
  refine va_newa (atype := .int) (n := 8) (N' := 8) (a0 := (8, .inl (fun _ => 0))) hx hb (hts (.arrayClass .int) (by decide +kernel)) rfl hK hP hD hS hA (fun _ => rfl) (by decide) rfl (by decide) (Nat.le_of_ble_eq_true rfl) (Nat.le_of_ble_eq_true rfl) dX0_init_31 (fun q3 cN H hK hP hD hS => ?_)
  obtain rfl : cI = cN := ySame hK (j := 1) (i := 0) (ty := .int) rfl rfl rfl
  have hK : va_K G vwCl [(cI, .int)] s := hK.sub [0] rfl
  have hP : va_P G vwCl [(h0, .inr (2, [.ref q0, .ref q1, .ref q2, .null, .null, .null, .int 0])), (q0, .inl (cI, 8, .inl (fun _ => 0))), (q1, .inl (cI, 8, .inl (fun _ => 0))), (q2, .inl (cI, 8, .inl (fun _ => 0))), (q3, .inl (cI, 8, .inl (fun _ => 0)))] H := hP
  have hD : va_D A [(h0, .inr (2, [.ref q0, .ref q1, .ref q2, .null, .null, .null, .int 0])), (q0, .inl (cI, 8, .inl (fun _ => 0))), (q1, .inl (cI, 8, .inl (fun _ => 0))), (q2, .inl (cI, 8, .inl (fun _ => 0))), (q3, .inl (cI, 8, .inl (fun _ => 0)))] := hD
  refine va_putF (D := G) (ci := 2) (v := .ref q3) (ty := .array .int) (C := RX0) (T := TX0) (N := 7) hx hb hts hin9 tyX0 tyX0_ok nmX0 hown hK hP hD hS 0 rfl rfl 3 (by decide) (hts (.fieldLink RX0 21 "DunningDesk$CaseBook" "lettersSent" "[I") (by decide +kernel)) (fun _ h9 => h9) rfl hin rfl (by decide +kernel) rfl rfl (Nat.le_of_ble_eq_true rfl) dX0_init_33 (fun H locs hP hD hS => ?_)
  have hP : va_P G vwCl [(h0, .inr (2, [.ref q0, .ref q1, .ref q2, .ref q3, .null, .null, .int 0])), (q0, .inl (cI, 8, .inl (fun _ => 0))), (q1, .inl (cI, 8, .inl (fun _ => 0))), (q2, .inl (cI, 8, .inl (fun _ => 0))), (q3, .inl (cI, 8, .inl (fun _ => 0)))] H := hP
  have hD : va_D A [(h0, .inr (2, [.ref q0, .ref q1, .ref q2, .ref q3, .null, .null, .int 0])), (q0, .inl (cI, 8, .inl (fun _ => 0))), (q1, .inl (cI, 8, .inl (fun _ => 0))), (q2, .inl (cI, 8, .inl (fun _ => 0))), (q3, .inl (cI, 8, .inl (fun _ => 0)))] := hD
  refine lv_aload_n hx hb dX0_init_36 rfl (lv_at hl 0 rfl) ?_
  refine lv_bipush (v := 8) hx hb dX0_init_37 (by decide) ?_
  refine va_newa (atype := .int) (n := 8) (N' := 8) (a0 := (8, .inl (fun _ => 0))) hx hb (hts (.arrayClass .int) (by decide +kernel)) rfl hK hP hD hS hA (fun _ => rfl) (by decide) rfl (by decide) (Nat.le_of_ble_eq_true rfl) (Nat.le_of_ble_eq_true rfl) dX0_init_39 (fun q4 cN H hK hP hD hS => ?_)
  obtain rfl : cI = cN := ySame hK (j := 1) (i := 0) (ty := .int) rfl rfl rfl
  have hK : va_K G vwCl [(cI, .int)] s := hK.sub [0] rfl
  have hP : va_P G vwCl [(h0, .inr (2, [.ref q0, .ref q1, .ref q2, .ref q3, .null, .null, .int 0])), (q0, .inl (cI, 8, .inl (fun _ => 0))), (q1, .inl (cI, 8, .inl (fun _ => 0))), (q2, .inl (cI, 8, .inl (fun _ => 0))), (q3, .inl (cI, 8, .inl (fun _ => 0))), (q4, .inl (cI, 8, .inl (fun _ => 0)))] H := hP
  have hD : va_D A [(h0, .inr (2, [.ref q0, .ref q1, .ref q2, .ref q3, .null, .null, .int 0])), (q0, .inl (cI, 8, .inl (fun _ => 0))), (q1, .inl (cI, 8, .inl (fun _ => 0))), (q2, .inl (cI, 8, .inl (fun _ => 0))), (q3, .inl (cI, 8, .inl (fun _ => 0))), (q4, .inl (cI, 8, .inl (fun _ => 0)))] := hD
  refine va_putF (D := G) (ci := 2) (v := .ref q4) (ty := .array .int) (C := RX0) (T := TX0) (N := 7) hx hb hts hin9 tyX0 tyX0_ok nmX0 hown hK hP hD hS 0 rfl rfl 4 (by decide) (hts (.fieldLink RX0 24 "DunningDesk$CaseBook" "pauseEnds" "[I") (by decide +kernel)) (fun _ h9 => h9) rfl hin rfl (by decide +kernel) rfl rfl (Nat.le_of_ble_eq_true rfl) dX0_init_41 (fun H locs hP hD hS => ?_)
  have hP : va_P G vwCl [(h0, .inr (2, [.ref q0, .ref q1, .ref q2, .ref q3, .ref q4, .null, .int 0])), (q0, .inl (cI, 8, .inl (fun _ => 0))), (q1, .inl (cI, 8, .inl (fun _ => 0))), (q2, .inl (cI, 8, .inl (fun _ => 0))), (q3, .inl (cI, 8, .inl (fun _ => 0))), (q4, .inl (cI, 8, .inl (fun _ => 0)))] H := hP
  have hD : va_D A [(h0, .inr (2, [.ref q0, .ref q1, .ref q2, .ref q3, .ref q4, .null, .int 0])), (q0, .inl (cI, 8, .inl (fun _ => 0))), (q1, .inl (cI, 8, .inl (fun _ => 0))), (q2, .inl (cI, 8, .inl (fun _ => 0))), (q3, .inl (cI, 8, .inl (fun _ => 0))), (q4, .inl (cI, 8, .inl (fun _ => 0)))] := hD
  refine lv_aload_n hx hb dX0_init_44 rfl (lv_at hl 0 rfl) ?_
  refine lv_bipush (v := 8) hx hb dX0_init_45 (by decide) ?_
  refine va_newa (atype := .boolean) (n := 8) (N' := 8) (a0 := (8, .inl (fun _ => 0))) hx hb (hts (.arrayClass .boolean) (by decide +kernel)) rfl hK hP hD hS hA (fun _ => rfl) (by decide) rfl (by decide) (Nat.le_of_ble_eq_true rfl) (Nat.le_of_ble_eq_true rfl) dX0_init_47 (fun q5 cN H hK hP hD hS => ?_)
  obtain ⟨cZ, rfl⟩ : ∃ z, z = cN := ⟨cN, rfl⟩
  have hK : va_K G vwCl [(cI, .int), (cZ, .boolean)] s := hK
  have hP : va_P G vwCl [(h0, .inr (2, [.ref q0, .ref q1, .ref q2, .ref q3, .ref q4, .null, .int 0])), (q0, .inl (cI, 8, .inl (fun _ => 0))), (q1, .inl (cI, 8, .inl (fun _ => 0))), (q2, .inl (cI, 8, .inl (fun _ => 0))), (q3, .inl (cI, 8, .inl (fun _ => 0))), (q4, .inl (cI, 8, .inl (fun _ => 0))), (q5, .inl (cZ, 8, .inl (fun _ => 0)))] H := hP
  have hD : va_D A [(h0, .inr (2, [.ref q0, .ref q1, .ref q2, .ref q3, .ref q4, .null, .int 0])), (q0, .inl (cI, 8, .inl (fun _ => 0))), (q1, .inl (cI, 8, .inl (fun _ => 0))), (q2, .inl (cI, 8, .inl (fun _ => 0))), (q3, .inl (cI, 8, .inl (fun _ => 0))), (q4, .inl (cI, 8, .inl (fun _ => 0))), (q5, .inl (cZ, 8, .inl (fun _ => 0)))] := hD
  refine va_putF (D := G) (ci := 2) (v := .ref q5) (ty := .array .boolean) (C := RX0) (T := TX0) (N := 7) hx hb hts hin9 tyX0 tyX0_ok nmX0 hown hK hP hD hS 0 rfl rfl 5 (by decide) (hts (.fieldLink RX0 27 "DunningDesk$CaseBook" "awaitsNote" "[Z") (by decide +kernel)) (fun _ h9 => h9) rfl hin rfl (by decide +kernel) rfl rfl (Nat.le_of_ble_eq_true rfl) dX0_init_49 (fun H locs hP hD hS => ?_)
  have hP : va_P G vwCl [(h0, .inr (2, [.ref q0, .ref q1, .ref q2, .ref q3, .ref q4, .ref q5, .int 0])), (q0, .inl (cI, 8, .inl (fun _ => 0))), (q1, .inl (cI, 8, .inl (fun _ => 0))), (q2, .inl (cI, 8, .inl (fun _ => 0))), (q3, .inl (cI, 8, .inl (fun _ => 0))), (q4, .inl (cI, 8, .inl (fun _ => 0))), (q5, .inl (cZ, 8, .inl (fun _ => 0)))] H := hP
  have hD : va_D A [(h0, .inr (2, [.ref q0, .ref q1, .ref q2, .ref q3, .ref q4, .ref q5, .int 0])), (q0, .inl (cI, 8, .inl (fun _ => 0))), (q1, .inl (cI, 8, .inl (fun _ => 0))), (q2, .inl (cI, 8, .inl (fun _ => 0))), (q3, .inl (cI, 8, .inl (fun _ => 0))), (q4, .inl (cI, 8, .inl (fun _ => 0))), (q5, .inl (cZ, 8, .inl (fun _ => 0)))] := hD
  refine W.widen (k := 6) (n := 48) (by decide) (by decide) ?_
  exact W.vret hx hb hr (fun τ hτ hW => ⟨⟨((fun i => match i with | 0 => cI | 1 => cZ | _ => cI), (fun i => match i with | 0 => h0 | 1 => q0 | 2 => q1 | 3 => q2 | 4 => q3 | 5 => q4 | _ => q5)), rfl, rfl, yPt hP hτ, va_K.moved hW.alike hK, hD⟩, hS.F hτ⟩) hS.2.2 dX0_init_52
set_option maxHeartbeats 4000000 in
set_option maxRecDepth 100000 in
theorem c_X1_init (l : Launch) (G : va_G) (h0 : Nat) (sz : Nat) : Met l yX1_init wsX1_init ({ frames := 1, cells := 11, slots := 880, locals := 12 }) (va_Pc [.ref h0] (fun U => U.heap.size = sz ∧ va_P G vwCl [(h0, .inr (3, [.null, .null, .null, .null, .null, .null, .null, .null, .null, .null, .null, .int 0, .int 0]))] U.heap ∧ va_K G vwCl [] U ∧ va_D (fun _ => True) [(h0, .inr (3, [.null, .null, .null, .null, .null, .null, .null, .null, .null, .null, .null, .int 0, .int 0]))])) (va_Qv (fun u : (Nat → ClassId) × (Nat → Nat) => u.2 0 = h0) (fun u τ => va_P G vwCl (W1 u.1 u.2 (fun _ _ => 0) 0 0) τ.heap ∧ va_K G vwCl [(u.1 0, .int), (u.1 2, .char)] τ ∧ va_D (va_A [(h0, .inr (3, [.null, .null, .null, .null, .null, .null, .null, .null, .null, .null, .null, .int 0, .int 0]))] sz) (W1 u.1 u.2 (fun _ _ => 0) 0 0)) (va_A [(h0, .inr (3, [.null, .null, .null, .null, .null, .null, .null, .null, .null, .null, .null, .int 0, .int 0]))] sz)) 11 880 (va_A [(h0, .inr (3, [.null, .null, .null, .null, .null, .null, .null, .null, .null, .null, .null, .int 0, .int 0]))] sz) := by
  refine Met.ofW (cc := cX1_init) (maxL := 1) (ret := none) (by decide) rfl ?_
  intro p e s m args below meth c_ s₁ B hml hv
  obtain ⟨rfl, hsz, hP, hK, hD0⟩ := hv
  have hx := B.exec
  have hb := B.bytes
  have hr := B.returns
  have hts := atoms_spec (ws := wsX1_init) B.pre
  have hown : s.vm.findClass RX1 = some m.cls := findClass_of_methodNamed B.named
  have hlocks := B.notSynchronized
  have hin : meth.name = "<init>" := (name_of_methodNamed B.named B.method).1
  subst hsz
  have hD := hD0.self (sz := s.heap.size)
  generalize hAe : va_A [(h0, .inr (3, [.null, .null, .null, .null, .null, .null, .null, .null, .null, .null, .null, .int 0, .int 0]))] s.heap.size = A at hD ⊢
  have hA : ∀ q : Nat, s.heap.size ≤ q → A q := fun q h => by rw [← hAe]; exact Or.inr h
  have hS : va_S A s.heap s.heap [] := va_S.rf
  have hin9 : ∀ w ∈ u_ws RX1 TX1 13, w ∈ wsX1_init := by decide +kernel
  have hl := lv_entry ([.ref h0]) (n := 1) (Nat.le_of_ble_eq_true rfl)
  rw [lg_entry_eq]
  generalize (lg_sl ([.ref h0]) ++ List.replicate (1 - (lg_sl ([.ref h0])).length) Slot.unset).toArray = ls at hl ⊢
  have hl : lv_has ls 1 [(0, .ref h0)] := hl
  refine lv_aload_n hx hb dX1_init_0 rfl (lv_at hl 0 rfl) ?_
  refine W.objInit hx hb hown (hts (.methodLink RX1 3 objectInit) (by decide +kernel)) (hts (.instanceMethod objectInit) (by decide +kernel)) (hts (.code objectInit ⟨#[0xb1]⟩ 1 none) (by decide +kernel)) rfl (by rw [hml]; exact hl.1) rfl dX1_init_1 (Nat.le_of_ble_eq_true rfl) (Nat.le_of_ble_eq_true rfl) ?_
  refine W.eq (g2 := F0 m 4 ls []) rfl ?_
  refine lv_aload_n hx hb dX1_init_4 rfl (lv_at hl 0 rfl) ?_
  refine lv_bipush (v := 80) hx hb dX1_init_5 (by decide) ?_
  refine va_newa (atype := .int) (n := 80) (N' := 80) (a0 := (80, .inl (fun _ => 0))) hx hb (hts (.arrayClass .int) (by decide +kernel)) rfl hK hP hD hS hA (fun _ => rfl) (by decide) rfl (by decide) (Nat.le_of_ble_eq_true rfl) (Nat.le_of_ble_eq_true rfl) dX1_init_7 (fun q0 cN H hK hP hD hS => ?_)
  obtain ⟨cI, rfl⟩ : ∃ z, z = cN := ⟨cN, rfl⟩
  have hK : va_K G vwCl [(cI, .int)] s := hK
  have hP : va_P G vwCl [(h0, .inr (3, [.null, .null, .null, .null, .null, .null, .null, .null, .null, .null, .null, .int 0, .int 0])), (q0, .inl (cI, 80, .inl (fun _ => 0)))] H := hP
  have hD : va_D A [(h0, .inr (3, [.null, .null, .null, .null, .null, .null, .null, .null, .null, .null, .null, .int 0, .int 0])), (q0, .inl (cI, 80, .inl (fun _ => 0)))] := hD
  refine va_putF (D := G) (ci := 3) (v := .ref q0) (ty := .array .int) (C := RX1) (T := TX1) (N := 13) hx hb hts hin9 tyX1 tyX1_ok nmX1 hown hK hP hD hS 0 rfl rfl 0 (by decide) (hts (.fieldLink RX1 9 "DunningDesk$MessageBook" "queues" "[I") (by decide +kernel)) (fun _ h9 => h9) rfl hin rfl (by decide +kernel) rfl rfl (Nat.le_of_ble_eq_true rfl) dX1_init_9 (fun H locs hP hD hS => ?_)
  have hP : va_P G vwCl [(h0, .inr (3, [.ref q0, .null, .null, .null, .null, .null, .null, .null, .null, .null, .null, .int 0, .int 0])), (q0, .inl (cI, 80, .inl (fun _ => 0)))] H := hP
  have hD : va_D A [(h0, .inr (3, [.ref q0, .null, .null, .null, .null, .null, .null, .null, .null, .null, .null, .int 0, .int 0])), (q0, .inl (cI, 80, .inl (fun _ => 0)))] := hD
  refine lv_aload_n hx hb dX1_init_12 rfl (lv_at hl 0 rfl) ?_
  refine lv_bipush (v := 80) hx hb dX1_init_13 (by decide) ?_
  refine va_newa (atype := .int) (n := 80) (N' := 80) (a0 := (80, .inl (fun _ => 0))) hx hb (hts (.arrayClass .int) (by decide +kernel)) rfl hK hP hD hS hA (fun _ => rfl) (by decide) rfl (by decide) (Nat.le_of_ble_eq_true rfl) (Nat.le_of_ble_eq_true rfl) dX1_init_15 (fun q1 cN H hK hP hD hS => ?_)
  obtain rfl : cI = cN := ySame hK (j := 1) (i := 0) (ty := .int) rfl rfl rfl
  have hK : va_K G vwCl [(cI, .int)] s := hK.sub [0] rfl
  have hP : va_P G vwCl [(h0, .inr (3, [.ref q0, .null, .null, .null, .null, .null, .null, .null, .null, .null, .null, .int 0, .int 0])), (q0, .inl (cI, 80, .inl (fun _ => 0))), (q1, .inl (cI, 80, .inl (fun _ => 0)))] H := hP
  have hD : va_D A [(h0, .inr (3, [.ref q0, .null, .null, .null, .null, .null, .null, .null, .null, .null, .null, .int 0, .int 0])), (q0, .inl (cI, 80, .inl (fun _ => 0))), (q1, .inl (cI, 80, .inl (fun _ => 0)))] := hD
  refine va_putF (D := G) (ci := 3) (v := .ref q1) (ty := .array .int) (C := RX1) (T := TX1) (N := 13) hx hb hts hin9 tyX1 tyX1_ok nmX1 hown hK hP hD hS 0 rfl rfl 1 (by decide) (hts (.fieldLink RX1 15 "DunningDesk$MessageBook" "keys" "[I") (by decide +kernel)) (fun _ h9 => h9) rfl hin rfl (by decide +kernel) rfl rfl (Nat.le_of_ble_eq_true rfl) dX1_init_17 (fun H locs hP hD hS => ?_)
  have hP : va_P G vwCl [(h0, .inr (3, [.ref q0, .ref q1, .null, .null, .null, .null, .null, .null, .null, .null, .null, .int 0, .int 0])), (q0, .inl (cI, 80, .inl (fun _ => 0))), (q1, .inl (cI, 80, .inl (fun _ => 0)))] H := hP
  have hD : va_D A [(h0, .inr (3, [.ref q0, .ref q1, .null, .null, .null, .null, .null, .null, .null, .null, .null, .int 0, .int 0])), (q0, .inl (cI, 80, .inl (fun _ => 0))), (q1, .inl (cI, 80, .inl (fun _ => 0)))] := hD
  refine lv_aload_n hx hb dX1_init_20 rfl (lv_at hl 0 rfl) ?_
  refine lv_bipush (v := 80) hx hb dX1_init_21 (by decide) ?_
  refine va_newa (atype := .char) (n := 80) (N' := 80) (a0 := (80, .inl (fun _ => 0))) hx hb (hts (.arrayClass .char) (by decide +kernel)) rfl hK hP hD hS hA (fun _ => rfl) (by decide) rfl (by decide) (Nat.le_of_ble_eq_true rfl) (Nat.le_of_ble_eq_true rfl) dX1_init_23 (fun q2 cN H hK hP hD hS => ?_)
  obtain ⟨cC, rfl⟩ : ∃ z, z = cN := ⟨cN, rfl⟩
  have hK : va_K G vwCl [(cI, .int), (cC, .char)] s := hK
  have hP : va_P G vwCl [(h0, .inr (3, [.ref q0, .ref q1, .null, .null, .null, .null, .null, .null, .null, .null, .null, .int 0, .int 0])), (q0, .inl (cI, 80, .inl (fun _ => 0))), (q1, .inl (cI, 80, .inl (fun _ => 0))), (q2, .inl (cC, 80, .inl (fun _ => 0)))] H := hP
  have hD : va_D A [(h0, .inr (3, [.ref q0, .ref q1, .null, .null, .null, .null, .null, .null, .null, .null, .null, .int 0, .int 0])), (q0, .inl (cI, 80, .inl (fun _ => 0))), (q1, .inl (cI, 80, .inl (fun _ => 0))), (q2, .inl (cC, 80, .inl (fun _ => 0)))] := hD
  refine va_putF (D := G) (ci := 3) (v := .ref q2) (ty := .array .char) (C := RX1) (T := TX1) (N := 13) hx hb hts hin9 tyX1 tyX1_ok nmX1 hown hK hP hD hS 0 rfl rfl 2 (by decide) (hts (.fieldLink RX1 18 "DunningDesk$MessageBook" "kinds" "[C") (by decide +kernel)) (fun _ h9 => h9) rfl hin rfl (by decide +kernel) rfl rfl (Nat.le_of_ble_eq_true rfl) dX1_init_25 (fun H locs hP hD hS => ?_)
  have hP : va_P G vwCl [(h0, .inr (3, [.ref q0, .ref q1, .ref q2, .null, .null, .null, .null, .null, .null, .null, .null, .int 0, .int 0])), (q0, .inl (cI, 80, .inl (fun _ => 0))), (q1, .inl (cI, 80, .inl (fun _ => 0))), (q2, .inl (cC, 80, .inl (fun _ => 0)))] H := hP
  have hD : va_D A [(h0, .inr (3, [.ref q0, .ref q1, .ref q2, .null, .null, .null, .null, .null, .null, .null, .null, .int 0, .int 0])), (q0, .inl (cI, 80, .inl (fun _ => 0))), (q1, .inl (cI, 80, .inl (fun _ => 0))), (q2, .inl (cC, 80, .inl (fun _ => 0)))] := hD
  refine lv_aload_n hx hb dX1_init_28 rfl (lv_at hl 0 rfl) ?_
  refine lv_bipush (v := 80) hx hb dX1_init_29 (by decide) ?_
  refine va_newa (atype := .int) (n := 80) (N' := 80) (a0 := (80, .inl (fun _ => 0))) hx hb (hts (.arrayClass .int) (by decide +kernel)) rfl hK hP hD hS hA (fun _ => rfl) (by decide) rfl (by decide) (Nat.le_of_ble_eq_true rfl) (Nat.le_of_ble_eq_true rfl) dX1_init_31 (fun q3 cN H hK hP hD hS => ?_)
  obtain rfl : cI = cN := ySame hK (j := 2) (i := 0) (ty := .int) rfl rfl rfl
  have hK : va_K G vwCl [(cI, .int), (cC, .char)] s := hK.sub [0, 1] rfl
  have hP : va_P G vwCl [(h0, .inr (3, [.ref q0, .ref q1, .ref q2, .null, .null, .null, .null, .null, .null, .null, .null, .int 0, .int 0])), (q0, .inl (cI, 80, .inl (fun _ => 0))), (q1, .inl (cI, 80, .inl (fun _ => 0))), (q2, .inl (cC, 80, .inl (fun _ => 0))), (q3, .inl (cI, 80, .inl (fun _ => 0)))] H := hP
  have hD : va_D A [(h0, .inr (3, [.ref q0, .ref q1, .ref q2, .null, .null, .null, .null, .null, .null, .null, .null, .int 0, .int 0])), (q0, .inl (cI, 80, .inl (fun _ => 0))), (q1, .inl (cI, 80, .inl (fun _ => 0))), (q2, .inl (cC, 80, .inl (fun _ => 0))), (q3, .inl (cI, 80, .inl (fun _ => 0)))] := hD
  refine va_putF (D := G) (ci := 3) (v := .ref q3) (ty := .array .int) (C := RX1) (T := TX1) (N := 13) hx hb hts hin9 tyX1 tyX1_ok nmX1 hown hK hP hD hS 0 rfl rfl 3 (by decide) (hts (.fieldLink RX1 22 "DunningDesk$MessageBook" "caseNumbers" "[I") (by decide +kernel)) (fun _ h9 => h9) rfl hin rfl (by decide +kernel) rfl rfl (Nat.le_of_ble_eq_true rfl) dX1_init_33 (fun H locs hP hD hS => ?_)
  have hP : va_P G vwCl [(h0, .inr (3, [.ref q0, .ref q1, .ref q2, .ref q3, .null, .null, .null, .null, .null, .null, .null, .int 0, .int 0])), (q0, .inl (cI, 80, .inl (fun _ => 0))), (q1, .inl (cI, 80, .inl (fun _ => 0))), (q2, .inl (cC, 80, .inl (fun _ => 0))), (q3, .inl (cI, 80, .inl (fun _ => 0)))] H := hP
  have hD : va_D A [(h0, .inr (3, [.ref q0, .ref q1, .ref q2, .ref q3, .null, .null, .null, .null, .null, .null, .null, .int 0, .int 0])), (q0, .inl (cI, 80, .inl (fun _ => 0))), (q1, .inl (cI, 80, .inl (fun _ => 0))), (q2, .inl (cC, 80, .inl (fun _ => 0))), (q3, .inl (cI, 80, .inl (fun _ => 0)))] := hD
  refine lv_aload_n hx hb dX1_init_36 rfl (lv_at hl 0 rfl) ?_
  refine lv_bipush (v := 80) hx hb dX1_init_37 (by decide) ?_
  refine va_newa (atype := .int) (n := 80) (N' := 80) (a0 := (80, .inl (fun _ => 0))) hx hb (hts (.arrayClass .int) (by decide +kernel)) rfl hK hP hD hS hA (fun _ => rfl) (by decide) rfl (by decide) (Nat.le_of_ble_eq_true rfl) (Nat.le_of_ble_eq_true rfl) dX1_init_39 (fun q4 cN H hK hP hD hS => ?_)
  obtain rfl : cI = cN := ySame hK (j := 2) (i := 0) (ty := .int) rfl rfl rfl
  have hK : va_K G vwCl [(cI, .int), (cC, .char)] s := hK.sub [0, 1] rfl
  have hP : va_P G vwCl [(h0, .inr (3, [.ref q0, .ref q1, .ref q2, .ref q3, .null, .null, .null, .null, .null, .null, .null, .int 0, .int 0])), (q0, .inl (cI, 80, .inl (fun _ => 0))), (q1, .inl (cI, 80, .inl (fun _ => 0))), (q2, .inl (cC, 80, .inl (fun _ => 0))), (q3, .inl (cI, 80, .inl (fun _ => 0))), (q4, .inl (cI, 80, .inl (fun _ => 0)))] H := hP
  have hD : va_D A [(h0, .inr (3, [.ref q0, .ref q1, .ref q2, .ref q3, .null, .null, .null, .null, .null, .null, .null, .int 0, .int 0])), (q0, .inl (cI, 80, .inl (fun _ => 0))), (q1, .inl (cI, 80, .inl (fun _ => 0))), (q2, .inl (cC, 80, .inl (fun _ => 0))), (q3, .inl (cI, 80, .inl (fun _ => 0))), (q4, .inl (cI, 80, .inl (fun _ => 0)))] := hD
  refine va_putF (D := G) (ci := 3) (v := .ref q4) (ty := .array .int) (C := RX1) (T := TX1) (N := 13) hx hb hts hin9 tyX1 tyX1_ok nmX1 hown hK hP hD hS 0 rfl rfl 4 (by decide) (hts (.fieldLink RX1 25 "DunningDesk$MessageBook" "contents" "[I") (by decide +kernel)) (fun _ h9 => h9) rfl hin rfl (by decide +kernel) rfl rfl (Nat.le_of_ble_eq_true rfl) dX1_init_41 (fun H locs hP hD hS => ?_)
  have hP : va_P G vwCl [(h0, .inr (3, [.ref q0, .ref q1, .ref q2, .ref q3, .ref q4, .null, .null, .null, .null, .null, .null, .int 0, .int 0])), (q0, .inl (cI, 80, .inl (fun _ => 0))), (q1, .inl (cI, 80, .inl (fun _ => 0))), (q2, .inl (cC, 80, .inl (fun _ => 0))), (q3, .inl (cI, 80, .inl (fun _ => 0))), (q4, .inl (cI, 80, .inl (fun _ => 0)))] H := hP
  have hD : va_D A [(h0, .inr (3, [.ref q0, .ref q1, .ref q2, .ref q3, .ref q4, .null, .null, .null, .null, .null, .null, .int 0, .int 0])), (q0, .inl (cI, 80, .inl (fun _ => 0))), (q1, .inl (cI, 80, .inl (fun _ => 0))), (q2, .inl (cC, 80, .inl (fun _ => 0))), (q3, .inl (cI, 80, .inl (fun _ => 0))), (q4, .inl (cI, 80, .inl (fun _ => 0)))] := hD
  refine lv_aload_n hx hb dX1_init_44 rfl (lv_at hl 0 rfl) ?_
  refine lv_bipush (v := 80) hx hb dX1_init_45 (by decide) ?_
  refine va_newa (atype := .char) (n := 80) (N' := 80) (a0 := (80, .inl (fun _ => 0))) hx hb (hts (.arrayClass .char) (by decide +kernel)) rfl hK hP hD hS hA (fun _ => rfl) (by decide) rfl (by decide) (Nat.le_of_ble_eq_true rfl) (Nat.le_of_ble_eq_true rfl) dX1_init_47 (fun q5 cN H hK hP hD hS => ?_)
  obtain rfl : cC = cN := ySame hK (j := 2) (i := 1) (ty := .char) rfl rfl rfl
  have hK : va_K G vwCl [(cI, .int), (cC, .char)] s := hK.sub [0, 1] rfl
  have hP : va_P G vwCl [(h0, .inr (3, [.ref q0, .ref q1, .ref q2, .ref q3, .ref q4, .null, .null, .null, .null, .null, .null, .int 0, .int 0])), (q0, .inl (cI, 80, .inl (fun _ => 0))), (q1, .inl (cI, 80, .inl (fun _ => 0))), (q2, .inl (cC, 80, .inl (fun _ => 0))), (q3, .inl (cI, 80, .inl (fun _ => 0))), (q4, .inl (cI, 80, .inl (fun _ => 0))), (q5, .inl (cC, 80, .inl (fun _ => 0)))] H := hP
  have hD : va_D A [(h0, .inr (3, [.ref q0, .ref q1, .ref q2, .ref q3, .ref q4, .null, .null, .null, .null, .null, .null, .int 0, .int 0])), (q0, .inl (cI, 80, .inl (fun _ => 0))), (q1, .inl (cI, 80, .inl (fun _ => 0))), (q2, .inl (cC, 80, .inl (fun _ => 0))), (q3, .inl (cI, 80, .inl (fun _ => 0))), (q4, .inl (cI, 80, .inl (fun _ => 0))), (q5, .inl (cC, 80, .inl (fun _ => 0)))] := hD
  refine va_putF (D := G) (ci := 3) (v := .ref q5) (ty := .array .char) (C := RX1) (T := TX1) (N := 13) hx hb hts hin9 tyX1 tyX1_ok nmX1 hown hK hP hD hS 0 rfl rfl 5 (by decide) (hts (.fieldLink RX1 28 "DunningDesk$MessageBook" "states" "[C") (by decide +kernel)) (fun _ h9 => h9) rfl hin rfl (by decide +kernel) rfl rfl (Nat.le_of_ble_eq_true rfl) dX1_init_49 (fun H locs hP hD hS => ?_)
  have hP : va_P G vwCl [(h0, .inr (3, [.ref q0, .ref q1, .ref q2, .ref q3, .ref q4, .ref q5, .null, .null, .null, .null, .null, .int 0, .int 0])), (q0, .inl (cI, 80, .inl (fun _ => 0))), (q1, .inl (cI, 80, .inl (fun _ => 0))), (q2, .inl (cC, 80, .inl (fun _ => 0))), (q3, .inl (cI, 80, .inl (fun _ => 0))), (q4, .inl (cI, 80, .inl (fun _ => 0))), (q5, .inl (cC, 80, .inl (fun _ => 0)))] H := hP
  have hD : va_D A [(h0, .inr (3, [.ref q0, .ref q1, .ref q2, .ref q3, .ref q4, .ref q5, .null, .null, .null, .null, .null, .int 0, .int 0])), (q0, .inl (cI, 80, .inl (fun _ => 0))), (q1, .inl (cI, 80, .inl (fun _ => 0))), (q2, .inl (cC, 80, .inl (fun _ => 0))), (q3, .inl (cI, 80, .inl (fun _ => 0))), (q4, .inl (cI, 80, .inl (fun _ => 0))), (q5, .inl (cC, 80, .inl (fun _ => 0)))] := hD
  refine lv_aload_n hx hb dX1_init_52 rfl (lv_at hl 0 rfl) ?_
  refine lv_bipush (v := 80) hx hb dX1_init_53 (by decide) ?_
  refine va_newa (atype := .int) (n := 80) (N' := 80) (a0 := (80, .inl (fun _ => 0))) hx hb (hts (.arrayClass .int) (by decide +kernel)) rfl hK hP hD hS hA (fun _ => rfl) (by decide) rfl (by decide) (Nat.le_of_ble_eq_true rfl) (Nat.le_of_ble_eq_true rfl) dX1_init_55 (fun q6 cN H hK hP hD hS => ?_)
  obtain rfl : cI = cN := ySame hK (j := 2) (i := 0) (ty := .int) rfl rfl rfl
  have hK : va_K G vwCl [(cI, .int), (cC, .char)] s := hK.sub [0, 1] rfl
  have hP : va_P G vwCl [(h0, .inr (3, [.ref q0, .ref q1, .ref q2, .ref q3, .ref q4, .ref q5, .null, .null, .null, .null, .null, .int 0, .int 0])), (q0, .inl (cI, 80, .inl (fun _ => 0))), (q1, .inl (cI, 80, .inl (fun _ => 0))), (q2, .inl (cC, 80, .inl (fun _ => 0))), (q3, .inl (cI, 80, .inl (fun _ => 0))), (q4, .inl (cI, 80, .inl (fun _ => 0))), (q5, .inl (cC, 80, .inl (fun _ => 0))), (q6, .inl (cI, 80, .inl (fun _ => 0)))] H := hP
  have hD : va_D A [(h0, .inr (3, [.ref q0, .ref q1, .ref q2, .ref q3, .ref q4, .ref q5, .null, .null, .null, .null, .null, .int 0, .int 0])), (q0, .inl (cI, 80, .inl (fun _ => 0))), (q1, .inl (cI, 80, .inl (fun _ => 0))), (q2, .inl (cC, 80, .inl (fun _ => 0))), (q3, .inl (cI, 80, .inl (fun _ => 0))), (q4, .inl (cI, 80, .inl (fun _ => 0))), (q5, .inl (cC, 80, .inl (fun _ => 0))), (q6, .inl (cI, 80, .inl (fun _ => 0)))] := hD
  refine va_putF (D := G) (ci := 3) (v := .ref q6) (ty := .array .int) (C := RX1) (T := TX1) (N := 13) hx hb hts hin9 tyX1 tyX1_ok nmX1 hown hK hP hD hS 0 rfl rfl 6 (by decide) (hts (.fieldLink RX1 31 "DunningDesk$MessageBook" "readyDays" "[I") (by decide +kernel)) (fun _ h9 => h9) rfl hin rfl (by decide +kernel) rfl rfl (Nat.le_of_ble_eq_true rfl) dX1_init_57 (fun H locs hP hD hS => ?_)
  have hP : va_P G vwCl [(h0, .inr (3, [.ref q0, .ref q1, .ref q2, .ref q3, .ref q4, .ref q5, .ref q6, .null, .null, .null, .null, .int 0, .int 0])), (q0, .inl (cI, 80, .inl (fun _ => 0))), (q1, .inl (cI, 80, .inl (fun _ => 0))), (q2, .inl (cC, 80, .inl (fun _ => 0))), (q3, .inl (cI, 80, .inl (fun _ => 0))), (q4, .inl (cI, 80, .inl (fun _ => 0))), (q5, .inl (cC, 80, .inl (fun _ => 0))), (q6, .inl (cI, 80, .inl (fun _ => 0)))] H := hP
  have hD : va_D A [(h0, .inr (3, [.ref q0, .ref q1, .ref q2, .ref q3, .ref q4, .ref q5, .ref q6, .null, .null, .null, .null, .int 0, .int 0])), (q0, .inl (cI, 80, .inl (fun _ => 0))), (q1, .inl (cI, 80, .inl (fun _ => 0))), (q2, .inl (cC, 80, .inl (fun _ => 0))), (q3, .inl (cI, 80, .inl (fun _ => 0))), (q4, .inl (cI, 80, .inl (fun _ => 0))), (q5, .inl (cC, 80, .inl (fun _ => 0))), (q6, .inl (cI, 80, .inl (fun _ => 0)))] := hD
  refine lv_aload_n hx hb dX1_init_60 rfl (lv_at hl 0 rfl) ?_
  refine lv_bipush (v := 80) hx hb dX1_init_61 (by decide) ?_
  refine va_newa (atype := .int) (n := 80) (N' := 80) (a0 := (80, .inl (fun _ => 0))) hx hb (hts (.arrayClass .int) (by decide +kernel)) rfl hK hP hD hS hA (fun _ => rfl) (by decide) rfl (by decide) (Nat.le_of_ble_eq_true rfl) (Nat.le_of_ble_eq_true rfl) dX1_init_63 (fun q7 cN H hK hP hD hS => ?_)
  obtain rfl : cI = cN := ySame hK (j := 2) (i := 0) (ty := .int) rfl rfl rfl
  have hK : va_K G vwCl [(cI, .int), (cC, .char)] s := hK.sub [0, 1] rfl
  have hP : va_P G vwCl [(h0, .inr (3, [.ref q0, .ref q1, .ref q2, .ref q3, .ref q4, .ref q5, .ref q6, .null, .null, .null, .null, .int 0, .int 0])), (q0, .inl (cI, 80, .inl (fun _ => 0))), (q1, .inl (cI, 80, .inl (fun _ => 0))), (q2, .inl (cC, 80, .inl (fun _ => 0))), (q3, .inl (cI, 80, .inl (fun _ => 0))), (q4, .inl (cI, 80, .inl (fun _ => 0))), (q5, .inl (cC, 80, .inl (fun _ => 0))), (q6, .inl (cI, 80, .inl (fun _ => 0))), (q7, .inl (cI, 80, .inl (fun _ => 0)))] H := hP
  have hD : va_D A [(h0, .inr (3, [.ref q0, .ref q1, .ref q2, .ref q3, .ref q4, .ref q5, .ref q6, .null, .null, .null, .null, .int 0, .int 0])), (q0, .inl (cI, 80, .inl (fun _ => 0))), (q1, .inl (cI, 80, .inl (fun _ => 0))), (q2, .inl (cC, 80, .inl (fun _ => 0))), (q3, .inl (cI, 80, .inl (fun _ => 0))), (q4, .inl (cI, 80, .inl (fun _ => 0))), (q5, .inl (cC, 80, .inl (fun _ => 0))), (q6, .inl (cI, 80, .inl (fun _ => 0))), (q7, .inl (cI, 80, .inl (fun _ => 0)))] := hD
  refine va_putF (D := G) (ci := 3) (v := .ref q7) (ty := .array .int) (C := RX1) (T := TX1) (N := 13) hx hb hts hin9 tyX1 tyX1_ok nmX1 hown hK hP hD hS 0 rfl rfl 7 (by decide) (hts (.fieldLink RX1 34 "DunningDesk$MessageBook" "triesMade" "[I") (by decide +kernel)) (fun _ h9 => h9) rfl hin rfl (by decide +kernel) rfl rfl (Nat.le_of_ble_eq_true rfl) dX1_init_65 (fun H locs hP hD hS => ?_)
  have hP : va_P G vwCl [(h0, .inr (3, [.ref q0, .ref q1, .ref q2, .ref q3, .ref q4, .ref q5, .ref q6, .ref q7, .null, .null, .null, .int 0, .int 0])), (q0, .inl (cI, 80, .inl (fun _ => 0))), (q1, .inl (cI, 80, .inl (fun _ => 0))), (q2, .inl (cC, 80, .inl (fun _ => 0))), (q3, .inl (cI, 80, .inl (fun _ => 0))), (q4, .inl (cI, 80, .inl (fun _ => 0))), (q5, .inl (cC, 80, .inl (fun _ => 0))), (q6, .inl (cI, 80, .inl (fun _ => 0))), (q7, .inl (cI, 80, .inl (fun _ => 0)))] H := hP
  have hD : va_D A [(h0, .inr (3, [.ref q0, .ref q1, .ref q2, .ref q3, .ref q4, .ref q5, .ref q6, .ref q7, .null, .null, .null, .int 0, .int 0])), (q0, .inl (cI, 80, .inl (fun _ => 0))), (q1, .inl (cI, 80, .inl (fun _ => 0))), (q2, .inl (cC, 80, .inl (fun _ => 0))), (q3, .inl (cI, 80, .inl (fun _ => 0))), (q4, .inl (cI, 80, .inl (fun _ => 0))), (q5, .inl (cC, 80, .inl (fun _ => 0))), (q6, .inl (cI, 80, .inl (fun _ => 0))), (q7, .inl (cI, 80, .inl (fun _ => 0)))] := hD
  refine lv_aload_n hx hb dX1_init_68 rfl (lv_at hl 0 rfl) ?_
  refine lv_bipush (v := 80) hx hb dX1_init_69 (by decide) ?_
  refine va_newa (atype := .int) (n := 80) (N' := 80) (a0 := (80, .inl (fun _ => 0))) hx hb (hts (.arrayClass .int) (by decide +kernel)) rfl hK hP hD hS hA (fun _ => rfl) (by decide) rfl (by decide) (Nat.le_of_ble_eq_true rfl) (Nat.le_of_ble_eq_true rfl) dX1_init_71 (fun q8 cN H hK hP hD hS => ?_)
  obtain rfl : cI = cN := ySame hK (j := 2) (i := 0) (ty := .int) rfl rfl rfl
  have hK : va_K G vwCl [(cI, .int), (cC, .char)] s := hK.sub [0, 1] rfl
  have hP : va_P G vwCl [(h0, .inr (3, [.ref q0, .ref q1, .ref q2, .ref q3, .ref q4, .ref q5, .ref q6, .ref q7, .null, .null, .null, .int 0, .int 0])), (q0, .inl (cI, 80, .inl (fun _ => 0))), (q1, .inl (cI, 80, .inl (fun _ => 0))), (q2, .inl (cC, 80, .inl (fun _ => 0))), (q3, .inl (cI, 80, .inl (fun _ => 0))), (q4, .inl (cI, 80, .inl (fun _ => 0))), (q5, .inl (cC, 80, .inl (fun _ => 0))), (q6, .inl (cI, 80, .inl (fun _ => 0))), (q7, .inl (cI, 80, .inl (fun _ => 0))), (q8, .inl (cI, 80, .inl (fun _ => 0)))] H := hP
  have hD : va_D A [(h0, .inr (3, [.ref q0, .ref q1, .ref q2, .ref q3, .ref q4, .ref q5, .ref q6, .ref q7, .null, .null, .null, .int 0, .int 0])), (q0, .inl (cI, 80, .inl (fun _ => 0))), (q1, .inl (cI, 80, .inl (fun _ => 0))), (q2, .inl (cC, 80, .inl (fun _ => 0))), (q3, .inl (cI, 80, .inl (fun _ => 0))), (q4, .inl (cI, 80, .inl (fun _ => 0))), (q5, .inl (cC, 80, .inl (fun _ => 0))), (q6, .inl (cI, 80, .inl (fun _ => 0))), (q7, .inl (cI, 80, .inl (fun _ => 0))), (q8, .inl (cI, 80, .inl (fun _ => 0)))] := hD
  refine va_putF (D := G) (ci := 3) (v := .ref q8) (ty := .array .int) (C := RX1) (T := TX1) (N := 13) hx hb hts hin9 tyX1 tyX1_ok nmX1 hown hK hP hD hS 0 rfl rfl 8 (by decide) (hts (.fieldLink RX1 37 "DunningDesk$MessageBook" "takers" "[I") (by decide +kernel)) (fun _ h9 => h9) rfl hin rfl (by decide +kernel) rfl rfl (Nat.le_of_ble_eq_true rfl) dX1_init_73 (fun H locs hP hD hS => ?_)
  have hP : va_P G vwCl [(h0, .inr (3, [.ref q0, .ref q1, .ref q2, .ref q3, .ref q4, .ref q5, .ref q6, .ref q7, .ref q8, .null, .null, .int 0, .int 0])), (q0, .inl (cI, 80, .inl (fun _ => 0))), (q1, .inl (cI, 80, .inl (fun _ => 0))), (q2, .inl (cC, 80, .inl (fun _ => 0))), (q3, .inl (cI, 80, .inl (fun _ => 0))), (q4, .inl (cI, 80, .inl (fun _ => 0))), (q5, .inl (cC, 80, .inl (fun _ => 0))), (q6, .inl (cI, 80, .inl (fun _ => 0))), (q7, .inl (cI, 80, .inl (fun _ => 0))), (q8, .inl (cI, 80, .inl (fun _ => 0)))] H := hP
  have hD : va_D A [(h0, .inr (3, [.ref q0, .ref q1, .ref q2, .ref q3, .ref q4, .ref q5, .ref q6, .ref q7, .ref q8, .null, .null, .int 0, .int 0])), (q0, .inl (cI, 80, .inl (fun _ => 0))), (q1, .inl (cI, 80, .inl (fun _ => 0))), (q2, .inl (cC, 80, .inl (fun _ => 0))), (q3, .inl (cI, 80, .inl (fun _ => 0))), (q4, .inl (cI, 80, .inl (fun _ => 0))), (q5, .inl (cC, 80, .inl (fun _ => 0))), (q6, .inl (cI, 80, .inl (fun _ => 0))), (q7, .inl (cI, 80, .inl (fun _ => 0))), (q8, .inl (cI, 80, .inl (fun _ => 0)))] := hD
  refine lv_aload_n hx hb dX1_init_76 rfl (lv_at hl 0 rfl) ?_
  refine lv_bipush (v := 80) hx hb dX1_init_77 (by decide) ?_
  refine va_newa (atype := .int) (n := 80) (N' := 80) (a0 := (80, .inl (fun _ => 0))) hx hb (hts (.arrayClass .int) (by decide +kernel)) rfl hK hP hD hS hA (fun _ => rfl) (by decide) rfl (by decide) (Nat.le_of_ble_eq_true rfl) (Nat.le_of_ble_eq_true rfl) dX1_init_79 (fun q9 cN H hK hP hD hS => ?_)
  obtain rfl : cI = cN := ySame hK (j := 2) (i := 0) (ty := .int) rfl rfl rfl
  have hK : va_K G vwCl [(cI, .int), (cC, .char)] s := hK.sub [0, 1] rfl
  have hP : va_P G vwCl [(h0, .inr (3, [.ref q0, .ref q1, .ref q2, .ref q3, .ref q4, .ref q5, .ref q6, .ref q7, .ref q8, .null, .null, .int 0, .int 0])), (q0, .inl (cI, 80, .inl (fun _ => 0))), (q1, .inl (cI, 80, .inl (fun _ => 0))), (q2, .inl (cC, 80, .inl (fun _ => 0))), (q3, .inl (cI, 80, .inl (fun _ => 0))), (q4, .inl (cI, 80, .inl (fun _ => 0))), (q5, .inl (cC, 80, .inl (fun _ => 0))), (q6, .inl (cI, 80, .inl (fun _ => 0))), (q7, .inl (cI, 80, .inl (fun _ => 0))), (q8, .inl (cI, 80, .inl (fun _ => 0))), (q9, .inl (cI, 80, .inl (fun _ => 0)))] H := hP
  have hD : va_D A [(h0, .inr (3, [.ref q0, .ref q1, .ref q2, .ref q3, .ref q4, .ref q5, .ref q6, .ref q7, .ref q8, .null, .null, .int 0, .int 0])), (q0, .inl (cI, 80, .inl (fun _ => 0))), (q1, .inl (cI, 80, .inl (fun _ => 0))), (q2, .inl (cC, 80, .inl (fun _ => 0))), (q3, .inl (cI, 80, .inl (fun _ => 0))), (q4, .inl (cI, 80, .inl (fun _ => 0))), (q5, .inl (cC, 80, .inl (fun _ => 0))), (q6, .inl (cI, 80, .inl (fun _ => 0))), (q7, .inl (cI, 80, .inl (fun _ => 0))), (q8, .inl (cI, 80, .inl (fun _ => 0))), (q9, .inl (cI, 80, .inl (fun _ => 0)))] := hD
  refine va_putF (D := G) (ci := 3) (v := .ref q9) (ty := .array .int) (C := RX1) (T := TX1) (N := 13) hx hb hts hin9 tyX1 tyX1_ok nmX1 hown hK hP hD hS 0 rfl rfl 9 (by decide) (hts (.fieldLink RX1 40 "DunningDesk$MessageBook" "takenDays" "[I") (by decide +kernel)) (fun _ h9 => h9) rfl hin rfl (by decide +kernel) rfl rfl (Nat.le_of_ble_eq_true rfl) dX1_init_81 (fun H locs hP hD hS => ?_)
  have hP : va_P G vwCl [(h0, .inr (3, [.ref q0, .ref q1, .ref q2, .ref q3, .ref q4, .ref q5, .ref q6, .ref q7, .ref q8, .ref q9, .null, .int 0, .int 0])), (q0, .inl (cI, 80, .inl (fun _ => 0))), (q1, .inl (cI, 80, .inl (fun _ => 0))), (q2, .inl (cC, 80, .inl (fun _ => 0))), (q3, .inl (cI, 80, .inl (fun _ => 0))), (q4, .inl (cI, 80, .inl (fun _ => 0))), (q5, .inl (cC, 80, .inl (fun _ => 0))), (q6, .inl (cI, 80, .inl (fun _ => 0))), (q7, .inl (cI, 80, .inl (fun _ => 0))), (q8, .inl (cI, 80, .inl (fun _ => 0))), (q9, .inl (cI, 80, .inl (fun _ => 0)))] H := hP
  have hD : va_D A [(h0, .inr (3, [.ref q0, .ref q1, .ref q2, .ref q3, .ref q4, .ref q5, .ref q6, .ref q7, .ref q8, .ref q9, .null, .int 0, .int 0])), (q0, .inl (cI, 80, .inl (fun _ => 0))), (q1, .inl (cI, 80, .inl (fun _ => 0))), (q2, .inl (cC, 80, .inl (fun _ => 0))), (q3, .inl (cI, 80, .inl (fun _ => 0))), (q4, .inl (cI, 80, .inl (fun _ => 0))), (q5, .inl (cC, 80, .inl (fun _ => 0))), (q6, .inl (cI, 80, .inl (fun _ => 0))), (q7, .inl (cI, 80, .inl (fun _ => 0))), (q8, .inl (cI, 80, .inl (fun _ => 0))), (q9, .inl (cI, 80, .inl (fun _ => 0)))] := hD
  refine lv_aload_n hx hb dX1_init_84 rfl (lv_at hl 0 rfl) ?_
  refine lv_bipush (v := 80) hx hb dX1_init_85 (by decide) ?_
  refine va_newa (atype := .int) (n := 80) (N' := 80) (a0 := (80, .inl (fun _ => 0))) hx hb (hts (.arrayClass .int) (by decide +kernel)) rfl hK hP hD hS hA (fun _ => rfl) (by decide) rfl (by decide) (Nat.le_of_ble_eq_true rfl) (Nat.le_of_ble_eq_true rfl) dX1_init_87 (fun q10 cN H hK hP hD hS => ?_)
  obtain rfl : cI = cN := ySame hK (j := 2) (i := 0) (ty := .int) rfl rfl rfl
  have hK : va_K G vwCl [(cI, .int), (cC, .char)] s := hK.sub [0, 1] rfl
  have hP : va_P G vwCl [(h0, .inr (3, [.ref q0, .ref q1, .ref q2, .ref q3, .ref q4, .ref q5, .ref q6, .ref q7, .ref q8, .ref q9, .null, .int 0, .int 0])), (q0, .inl (cI, 80, .inl (fun _ => 0))), (q1, .inl (cI, 80, .inl (fun _ => 0))), (q2, .inl (cC, 80, .inl (fun _ => 0))), (q3, .inl (cI, 80, .inl (fun _ => 0))), (q4, .inl (cI, 80, .inl (fun _ => 0))), (q5, .inl (cC, 80, .inl (fun _ => 0))), (q6, .inl (cI, 80, .inl (fun _ => 0))), (q7, .inl (cI, 80, .inl (fun _ => 0))), (q8, .inl (cI, 80, .inl (fun _ => 0))), (q9, .inl (cI, 80, .inl (fun _ => 0))), (q10, .inl (cI, 80, .inl (fun _ => 0)))] H := hP
  have hD : va_D A [(h0, .inr (3, [.ref q0, .ref q1, .ref q2, .ref q3, .ref q4, .ref q5, .ref q6, .ref q7, .ref q8, .ref q9, .null, .int 0, .int 0])), (q0, .inl (cI, 80, .inl (fun _ => 0))), (q1, .inl (cI, 80, .inl (fun _ => 0))), (q2, .inl (cC, 80, .inl (fun _ => 0))), (q3, .inl (cI, 80, .inl (fun _ => 0))), (q4, .inl (cI, 80, .inl (fun _ => 0))), (q5, .inl (cC, 80, .inl (fun _ => 0))), (q6, .inl (cI, 80, .inl (fun _ => 0))), (q7, .inl (cI, 80, .inl (fun _ => 0))), (q8, .inl (cI, 80, .inl (fun _ => 0))), (q9, .inl (cI, 80, .inl (fun _ => 0))), (q10, .inl (cI, 80, .inl (fun _ => 0)))] := hD
  refine va_putF (D := G) (ci := 3) (v := .ref q10) (ty := .array .int) (C := RX1) (T := TX1) (N := 13) hx hb hts hin9 tyX1 tyX1_ok nmX1 hown hK hP hD hS 0 rfl rfl 10 (by decide) (hts (.fieldLink RX1 43 "DunningDesk$MessageBook" "doneOrder" "[I") (by decide +kernel)) (fun _ h9 => h9) rfl hin rfl (by decide +kernel) rfl rfl (Nat.le_of_ble_eq_true rfl) dX1_init_89 (fun H locs hP hD hS => ?_)
  have hP : va_P G vwCl [(h0, .inr (3, [.ref q0, .ref q1, .ref q2, .ref q3, .ref q4, .ref q5, .ref q6, .ref q7, .ref q8, .ref q9, .ref q10, .int 0, .int 0])), (q0, .inl (cI, 80, .inl (fun _ => 0))), (q1, .inl (cI, 80, .inl (fun _ => 0))), (q2, .inl (cC, 80, .inl (fun _ => 0))), (q3, .inl (cI, 80, .inl (fun _ => 0))), (q4, .inl (cI, 80, .inl (fun _ => 0))), (q5, .inl (cC, 80, .inl (fun _ => 0))), (q6, .inl (cI, 80, .inl (fun _ => 0))), (q7, .inl (cI, 80, .inl (fun _ => 0))), (q8, .inl (cI, 80, .inl (fun _ => 0))), (q9, .inl (cI, 80, .inl (fun _ => 0))), (q10, .inl (cI, 80, .inl (fun _ => 0)))] H := hP
  have hD : va_D A [(h0, .inr (3, [.ref q0, .ref q1, .ref q2, .ref q3, .ref q4, .ref q5, .ref q6, .ref q7, .ref q8, .ref q9, .ref q10, .int 0, .int 0])), (q0, .inl (cI, 80, .inl (fun _ => 0))), (q1, .inl (cI, 80, .inl (fun _ => 0))), (q2, .inl (cC, 80, .inl (fun _ => 0))), (q3, .inl (cI, 80, .inl (fun _ => 0))), (q4, .inl (cI, 80, .inl (fun _ => 0))), (q5, .inl (cC, 80, .inl (fun _ => 0))), (q6, .inl (cI, 80, .inl (fun _ => 0))), (q7, .inl (cI, 80, .inl (fun _ => 0))), (q8, .inl (cI, 80, .inl (fun _ => 0))), (q9, .inl (cI, 80, .inl (fun _ => 0))), (q10, .inl (cI, 80, .inl (fun _ => 0)))] := hD
  refine W.widen (k := 11) (n := 880) (by decide) (by decide) ?_
  exact W.vret hx hb hr (fun τ hτ hW => ⟨⟨((fun i => match i with | 0 => cI | 2 => cC | _ => cI), (fun i => match i with | 0 => h0 | 1 => q0 | 2 => q1 | 3 => q2 | 4 => q3 | 5 => q4 | 6 => q5 | 7 => q6 | 8 => q7 | 9 => q8 | 10 => q9 | _ => q10)), rfl, rfl, yPt hP hτ, va_K.moved hW.alike hK, hD⟩, hS.F hτ⟩) hS.2.2 dX1_init_92