theorem W0_k {k k' : Nat → ClassId} {a : Nat → Nat} {C : Nat → Nat → Int32} {n : Nat} (h0 : k 0 = k' 0) (h1 : k 1 = k' 1) : W0 k a C n = W0 k' a C n := by unfold W0; rw [h0, h1]
theorem W1_k {k k' : Nat → ClassId} {a : Nat → Nat} {M : Nat → Nat → Int32} {ds n : Nat} (h0 : k 0 = k' 0) (h2 : k 2 = k' 2) : W1 k a M ds n = W1 k' a M ds n := by unfold W1; rw [h0, h2]
theorem W2_k {k k' : Nat → ClassId} {h : Nat} {a c : Nat → Nat} {C : Nat → Nat → Int32} {n0 : Nat} {M : Nat → Nat → Int32} {ds n1 d : Nat} (h0 : k 0 = k' 0) (h1 : k 1 = k' 1) (h2 : k 2 = k' 2) : W2 k h a c C n0 M ds n1 d = W2 k' h a c C n0 M ds n1 d := by
  show _ :: (W0 k a C n0 ++ W1 k c M ds n1) = _ :: (W0 k' a C n0 ++ W1 k' c M ds n1)
  rw [W0_k h0 h1, W1_k h0 h2]
set_option maxHeartbeats 4000000 in
set_option maxRecDepth 100000 in
theorem c_X2_init (l : Launch) (G : va_G) (h0 : Nat) (sz : Nat) : Met l yX2_init wsX2_init ({ frames := 2, cells := 19, slots := 948, locals := 40 }) (va_Pc [.ref h0] (fun U => U.heap.size = sz ∧ va_P G vwCl [(h0, .inr (4, [.null, .null, .int 0]))] U.heap ∧ va_K G vwCl [] U ∧ va_D (fun _ => True) [(h0, .inr (4, [.null, .null, .int 0]))] ∧ ∀ w ∈ yNW, va_Nw w U)) (va_Qv (fun _ : (Nat → ClassId) × (Nat → Nat) × (Nat → Nat) => True) (fun u τ => va_P G vwCl (W2 u.1 h0 u.2.1 u.2.2 (fun _ _ => 0) 0 (fun _ _ => 0) 0 0 0) τ.heap ∧ va_K G vwCl [(u.1 0, .int), (u.1 1, .boolean), (u.1 2, .char)] τ ∧ va_D (va_A [(h0, .inr (4, [.null, .null, .int 0]))] sz) (W2 u.1 h0 u.2.1 u.2.2 (fun _ _ => 0) 0 (fun _ _ => 0) 0 0 0)) (va_A [(h0, .inr (4, [.null, .null, .int 0]))] sz)) 19 948 (va_A [(h0, .inr (4, [.null, .null, .int 0]))] sz) := by
  refine Met.ofW (cc := cX2_init) (maxL := 1) (ret := none) (by decide) rfl ?_
  intro p e s m args below meth c_ s₁ B hml hv
  obtain ⟨rfl, hsz, hP, hK, hD0, hE⟩ := hv
  have hx := B.exec
  have hb := B.bytes
  have hr := B.returns
  have hts := atoms_spec (ws := wsX2_init) B.pre
  have hown : s.vm.findClass RX2 = some m.cls := findClass_of_methodNamed B.named
  have hlocks := B.notSynchronized
  have hin : meth.name = "<init>" := (name_of_methodNamed B.named B.method).1
  subst hsz
  have hD := hD0.self (sz := s.heap.size)
  generalize hAe : va_A [(h0, .inr (4, [.null, .null, .int 0]))] s.heap.size = A at hD ⊢
  have hA : ∀ q : Nat, s.heap.size ≤ q → A q := fun q h => by rw [← hAe]; exact Or.inr h
  have hS : va_S A s.heap s.heap [] := va_S.rf
  have hP : va_P G vwCl [(h0, .inr (4, [.null, .null, .int 0]))] s.heap := hP
  have hl := lv_entry ([.ref h0]) (n := 1) (Nat.le_of_ble_eq_true rfl)
  rw [lg_entry_eq]
  generalize (lg_sl ([.ref h0]) ++ List.replicate (1 - (lg_sl ([.ref h0])).length) Slot.unset).toArray = ls at hl ⊢
  have hl : lv_has ls 1 [(0, .ref h0)] := hl
  refine lv_aload_n hx hb dX2_init_0 rfl (lv_at hl 0 rfl) ?_
  refine W.objInit hx hb hown (hts (.methodLink RX2 1 objectInit) (by decide +kernel)) (hts (.instanceMethod objectInit) (by decide +kernel)) (hts (.code objectInit ⟨#[0xb1]⟩ 1 none) (by decide +kernel)) rfl (by rw [hml]; exact hl.1) rfl dX2_init_1 (Nat.le_of_ble_eq_true rfl) (Nat.le_of_ble_eq_true rfl) ?_
  refine W.eq (g2 := F0 m 4 ls []) rfl ?_
  refine lv_aload_n hx hb dX2_init_4 rfl (lv_at hl 0 rfl) ?_
  refine va_new (ci := 2) (fs := [.null, .null, .null, .null, .null, .null, .int 0]) (C := RX0) (T := TX0) (N := 7) hx hb hts (by decide +kernel) tyX0 tyX0_ok hown (hts (.classLink RX2 7 RX0) (by decide +kernel)) (hts (.instantiable RX0 7) (by decide +kernel)) (hts (.initialized RX0) (by decide +kernel)) hK hP hD hS hA rfl (fun j hj => by rcases (show j = 0 ∨ j = 1 ∨ j = 2 ∨ j = 3 ∨ j = 4 ∨ j = 5 ∨ j = 6 by omega) with rfl | rfl | rfl | rfl | rfl | rfl | rfl <;> rfl) (Nat.le_of_ble_eq_true rfl) (Nat.le_of_ble_eq_true rfl) dX2_init_5 (fun q5 H hP hD hS => ?_)
  have hP : va_P G vwCl [(h0, .inr (4, [.null, .null, .int 0])), (q5, .inr (2, [.null, .null, .null, .null, .null, .null, .int 0]))] H := hP
  have hD : va_D A [(h0, .inr (4, [.null, .null, .int 0])), (q5, .inr (2, [.null, .null, .null, .null, .null, .null, .int 0]))] := hD
  refine lv_dup hx hb dX2_init_8 rfl ?_
  have hPc := hP.sub (ws' := [(q5, .inr (2, [.null, .null, .null, .null, .null, .null, .int 0]))]) [1] rfl
  have hDc := hD.sub (ws' := [(q5, .inr (2, [.null, .null, .null, .null, .null, .null, .int 0]))]) [1] (by decide) rfl
  have hKc := hK.sub (tys' := []) [] rfl
  have hFc := va_free (wc := [(q5, .inr (2, [.null, .null, .null, .null, .null, .null, .int 0]))]) hD hS hA [1] rfl
  refine va_callv (va_runIN (As := []) (rest := [.ref q5, .ref h0]) ⟨hx, hb, hml, hown, hts⟩ (c_X0_init l G q5 H.size) ⟨va_cnB (host := "DunningDesk") 0 hts gX2_init_X0_init_n9 rfl rfl rfl (hE (.methodLinkNest RX2 9 yX0_init "DunningDesk") (by decide +kernel)) (hts (.initialized RX0) (by decide +kernel)) (by decide +kernel) ⟨Nat.le_of_ble_eq_true rfl, Nat.le_of_ble_eq_true rfl⟩, rfl, hts (.instanceMethod yX0_init) (by decide +kernel)⟩ ⟨fun a U g mk q => ⟨q.1, q.2.1, q.2.2.1, va_K.moved (u := U) (U := U.calling g mk a) (Vm.Alike.refl U.vm) q.2.2.2.1, q.2.2.2.2⟩, fun U hU hW => ⟨rfl, by rw [hU], by rw [hU]; exact hPc, va_K.moved hW.alike hKc, hDc.weaken (fun _ _ _ _ => trivial)⟩⟩ rfl rfl hl.1 rfl (lv_room (Nat.le_of_ble_eq_true rfl)) dX2_init_9 ⟨Nat.le_of_ble_eq_true rfl, Nat.le_of_ble_eq_true rfl⟩) hS (fun q _ h => hFc q h) hFc (fun u t H1 locs1 ht hvm hw hB hz1 hk1 hS => ?_)
  obtain ⟨k0, a0⟩ := u
  obtain ⟨hP1, hK1, hD1⟩ := hB
  rw [ht] at hP1
  have hK1 := va_K.moved hvm.symm hK1
  dsimp only at hw hP1 hK1 hD1
  subst hw
  obtain ⟨hP, hD⟩ := va_join (wr := [(h0, .inr (4, [.null, .null, .int 0]))]) (w1 := W0 k0 a0 (fun _ _ => 0) 0) hP hD [1] [0] rfl rfl (by decide) (by decide) hk1 hFc hP1 hD1
  have hK := (hK.sub (tys' := []) [] rfl).app hK1
  have hP : va_P G vwCl ((h0, .inr (4, [.null, .null, .int 0])) :: W0 k0 a0 (fun _ _ => 0) 0) H1 := hP
  have hD : va_D A ((h0, .inr (4, [.null, .null, .int 0])) :: W0 k0 a0 (fun _ _ => 0) 0) := hD
  have hK : va_K G vwCl [(k0 0, .int), (k0 1, .boolean)] s := hK
  have hin9 : ∀ w ∈ u_ws RX2 TX2 3, w ∈ wsX2_init := by decide +kernel
  refine va_putF (D := G) (ci := 4) (v := .ref (a0 0)) (ty := .object "DunningDesk$CaseBook") (C := RX2) (T := TX2) (N := 3) hx hb hts hin9 tyX2 tyX2_ok nmX2 hown hK hP hD hS 0 rfl rfl 0 (by decide) (hts (.fieldLink RX2 10 "DunningDesk" "cases" "LDunningDesk$CaseBook;") (by decide +kernel)) (fun _ h9 => h9) rfl hin rfl (by decide +kernel) rfl rfl (Nat.le_of_ble_eq_true rfl) dX2_init_12 (fun H locs hP hD hS => ?_)
  have hP : va_P G vwCl ((h0, .inr (4, [.ref (a0 0), .null, .int 0])) :: W0 k0 a0 (fun _ _ => 0) 0) H := hP
  have hD : va_D A ((h0, .inr (4, [.ref (a0 0), .null, .int 0])) :: W0 k0 a0 (fun _ _ => 0) 0) := hD
  refine lv_aload_n hx hb dX2_init_15 rfl (lv_at hl 0 rfl) ?_
  refine va_new (ci := 3) (fs := [.null, .null, .null, .null, .null, .null, .null, .null, .null, .null, .null, .int 0, .int 0]) (C := RX1) (T := TX1) (N := 13) hx hb hts (by decide +kernel) tyX1 tyX1_ok hown (hts (.classLink RX2 16 RX1) (by decide +kernel)) (hts (.instantiable RX1 13) (by decide +kernel)) (hts (.initialized RX1) (by decide +kernel)) hK hP hD hS hA rfl (fun j hj => by rcases (show j = 0 ∨ j = 1 ∨ j = 2 ∨ j = 3 ∨ j = 4 ∨ j = 5 ∨ j = 6 ∨ j = 7 ∨ j = 8 ∨ j = 9 ∨ j = 10 ∨ j = 11 ∨ j = 12 by omega) with rfl | rfl | rfl | rfl | rfl | rfl | rfl | rfl | rfl | rfl | rfl | rfl | rfl <;> rfl) (Nat.le_of_ble_eq_true rfl) (Nat.le_of_ble_eq_true rfl) dX2_init_16 (fun q16 H hP hD hS => ?_)
  have hP : va_P G vwCl ((h0, .inr (4, [.ref (a0 0), .null, .int 0])) :: (W0 k0 a0 (fun _ _ => 0) 0 ++ [(q16, .inr (3, [.null, .null, .null, .null, .null, .null, .null, .null, .null, .null, .null, .int 0, .int 0]))])) H := hP
  have hD : va_D A ((h0, .inr (4, [.ref (a0 0), .null, .int 0])) :: (W0 k0 a0 (fun _ _ => 0) 0 ++ [(q16, .inr (3, [.null, .null, .null, .null, .null, .null, .null, .null, .null, .null, .null, .int 0, .int 0]))])) := hD
  refine lv_dup hx hb dX2_init_19 rfl ?_
  have hPc := hP.sub (ws' := [(q16, .inr (3, [.null, .null, .null, .null, .null, .null, .null, .null, .null, .null, .null, .int 0, .int 0]))]) [8] rfl
  have hDc := hD.sub (ws' := [(q16, .inr (3, [.null, .null, .null, .null, .null, .null, .null, .null, .null, .null, .null, .int 0, .int 0]))]) [8] (by decide) rfl
  have hKc := hK.sub (tys' := []) [] rfl
  have hFc := va_free (wc := [(q16, .inr (3, [.null, .null, .null, .null, .null, .null, .null, .null, .null, .null, .null, .int 0, .int 0]))]) hD hS hA [8] rfl
  refine va_callv (va_runIN (As := []) (rest := [.ref q16, .ref h0]) ⟨hx, hb, hml, hown, hts⟩ (c_X1_init l G q16 H.size) ⟨va_cnB (host := "DunningDesk") 0 hts gX2_init_X1_init_n18 rfl rfl rfl (hE (.methodLinkNest RX2 18 yX1_init "DunningDesk") (by decide +kernel)) (hts (.initialized RX1) (by decide +kernel)) (by decide +kernel) ⟨Nat.le_of_ble_eq_true rfl, Nat.le_of_ble_eq_true rfl⟩, rfl, hts (.instanceMethod yX1_init) (by decide +kernel)⟩ ⟨fun a U g mk q => ⟨q.1, q.2.1, q.2.2.1, va_K.moved (u := U) (U := U.calling g mk a) (Vm.Alike.refl U.vm) q.2.2.2.1, q.2.2.2.2⟩, fun U hU hW => ⟨rfl, by rw [hU], by rw [hU]; exact hPc, va_K.moved hW.alike hKc, hDc.weaken (fun _ _ _ _ => trivial)⟩⟩ rfl rfl hl.1 rfl (lv_room (Nat.le_of_ble_eq_true rfl)) dX2_init_20 ⟨Nat.le_of_ble_eq_true rfl, Nat.le_of_ble_eq_true rfl⟩) hS (fun q _ h => hFc q h) hFc (fun u t H1 locs1 ht hvm hw hB hz1 hk1 hS => ?_)
  obtain ⟨k1, a1⟩ := u
  obtain ⟨hP1, hK1, hD1⟩ := hB
  rw [ht] at hP1
  have hK1 := va_K.moved hvm.symm hK1
  dsimp only at hw hP1 hK1 hD1
  subst hw
  obtain ⟨hP, hD⟩ := va_join (wr := (h0, .inr (4, [.ref (a0 0), .null, .int 0])) :: W0 k0 a0 (fun _ _ => 0) 0) (w1 := W1 k1 a1 (fun _ _ => 0) 0 0) hP hD [8] [0, 1, 2, 3, 4, 5, 6, 7] rfl rfl (by decide) (by decide) hk1 hFc hP1 hD1
  have hK := hK.app hK1
  have hP : va_P G vwCl ((h0, .inr (4, [.ref (a0 0), .null, .int 0])) :: (W0 k0 a0 (fun _ _ => 0) 0 ++ W1 k1 a1 (fun _ _ => 0) 0 0)) H1 := hP
  have hD : va_D A ((h0, .inr (4, [.ref (a0 0), .null, .int 0])) :: (W0 k0 a0 (fun _ _ => 0) 0 ++ W1 k1 a1 (fun _ _ => 0) 0 0)) := hD
  have hK : va_K G vwCl [(k0 0, .int), (k0 1, .boolean), (k1 0, .int), (k1 2, .char)] s := hK
  refine va_putF (D := G) (ci := 4) (v := .ref (a1 0)) (ty := .object "DunningDesk$MessageBook") (C := RX2) (T := TX2) (N := 3) hx hb hts hin9 tyX2 tyX2_ok nmX2 hown hK hP hD hS 0 rfl rfl 1 (by decide) (hts (.fieldLink RX2 19 "DunningDesk" "messages" "LDunningDesk$MessageBook;") (by decide +kernel)) (fun _ h9 => h9) rfl hin rfl (by decide +kernel) rfl rfl (Nat.le_of_ble_eq_true rfl) dX2_init_23 (fun H locs hP hD hS => ?_)
  have hP : va_P G vwCl ((h0, .inr (4, [.ref (a0 0), .ref (a1 0), .int 0])) :: (W0 k0 a0 (fun _ _ => 0) 0 ++ W1 k1 a1 (fun _ _ => 0) 0 0)) H := hP
  have hD : va_D A ((h0, .inr (4, [.ref (a0 0), .ref (a1 0), .int 0])) :: (W0 k0 a0 (fun _ _ => 0) 0 ++ W1 k1 a1 (fun _ _ => 0) 0 0)) := hD
  refine lv_aload_n hx hb dX2_init_26 rfl (lv_at hl 0 rfl) ?_
  refine lv_iconst (v := 0) hx hb dX2_init_27 (by decide) ?_
  refine va_put (D := G) (ci := 4) (v := .int 0) (ty := .int) (C := RX2) (T := TX2) (N := 3) hx hb hts hin9 tyX2 tyX2_ok nmX2 hown hK hP hD hS 0 rfl rfl 2 (by decide) (hts (.fieldLink RX2 23 "DunningDesk" "today" "I") (by decide +kernel)) (fun _ h9 => h9) rfl (by decide +kernel) rfl rfl (Nat.le_of_ble_eq_true rfl) dX2_init_28 (fun H locs hP hD hS => ?_)
  have hcc : k1 0 = k0 0 := ySame hK (i := 2) (j := 0) (ty := .int) rfl rfl rfl
  obtain ⟨k, ek⟩ : ∃ z : Nat → ClassId, z = fun i => match i with | 0 => k0 0 | 1 => k0 1 | _ => k1 2 := ⟨_, rfl⟩
  have e1 : W0 k0 a0 (fun _ _ => 0) 0 = W0 k a0 (fun _ _ => 0) 0 := W0_k (by rw [ek]; try rfl) (by rw [ek]; try rfl)
  have e2 : W1 k1 a1 (fun _ _ => 0) 0 0 = W1 k a1 (fun _ _ => 0) 0 0 := W1_k (by rw [ek]; exact hcc) (by rw [ek]; try rfl)
  have hP : va_P G vwCl ((h0, .inr (4, [.ref (a0 0), .ref (a1 0), .int 0])) :: (W0 k0 a0 (fun _ _ => 0) 0 ++ W1 k1 a1 (fun _ _ => 0) 0 0)) H := hP
  have hD : va_D A ((h0, .inr (4, [.ref (a0 0), .ref (a1 0), .int 0])) :: (W0 k0 a0 (fun _ _ => 0) 0 ++ W1 k1 a1 (fun _ _ => 0) 0 0)) := hD
  rw [e1, e2] at hP hD
  have hP : va_P G vwCl (W2 k h0 a0 a1 (fun _ _ => 0) 0 (fun _ _ => 0) 0 0 0) H := hP
  have hD : va_D A (W2 k h0 a0 a1 (fun _ _ => 0) 0 (fun _ _ => 0) 0 0 0) := hD
  have hK : va_K G vwCl [(k 0, .int), (k 1, .boolean), (k 2, .char)] s := by rw [ek]; exact hK.sub [0, 1, 3] rfl
  exact W.vret hx hb hr (fun τ hτ hW => ⟨⟨(k, a0, a1), rfl, trivial, yPt hP hτ, va_K.moved hW.alike hK, hD⟩, hS.F hτ⟩) hS.2.2 dX2_init_31
