set_option maxHeartbeats 4000000 in
set_option maxRecDepth 100000 in
theorem whole_start {p : Program} {e : Env} {s : State} {m : MethodId} {below : List Frame} {meth : Method} {c : Code} (l : Launch) (hflags : l.flags = flags0) {b L : Nat} {xs : Nat → Int32} (hL : L ≤ 3584) (C0 : lw_At p s m meth c b L xs) : W p l e room_1 s m #[Value.ref b] below meth c s.heap [] 0 0 (lw_Z below #[Value.ref b] s) (entryFrame m ([Value.ref b] : List Value).toArray 9) := by
  obtain ⟨hx, hb, hr, hml, hown, hts0, hX, hbl, hlocks, hgv⟩ := C0
  have hts : ∀ w ∈ wsL_law, w.before #[Value.ref b] s = true := fun w h => hts0 w (wsL_law_in w h)
  have hown : s.vm.findClass RL = some m.cls := hown
  have hl9 : l.stackTraces = false := y_flags hflags
  obtain ⟨G, hKc⟩ := y_K0 hts0
  obtain ⟨cX, kX, hfX, hkX, _⟩ := Cond.instantiable_spec (hts (.instantiable RX2 3) (by decide +kernel))
  have hE : yEV0 s s.heap := y_E0 hfX hts0 hgv
  have hNC : yNC s := y_NC0 hgv
  skip
  have hA : ∀ q : Nat, s.heap.size ≤ q → (fun q : Nat => s.heap.size ≤ q) q := fun _ h => h
  have hbA : ¬ (fun q : Nat => s.heap.size ≤ q) b := Nat.not_le.mpr hbl
  have hS : va_S (fun q : Nat => s.heap.size ≤ q) s.heap s.heap [] := va_S.rf
  have hK : va_K G vwCl [] s := ⟨hKc, fun k q h => by simp at h⟩
  have hP : va_P G vwCl [] s.heap := fun k q h => by simp at h
  have hD : va_D (fun q : Nat => s.heap.size ≤ q) [] := ⟨fun i j p q h => by simp at h, fun k q h => by simp at h⟩
  have hl := lv_entry ([.ref b]) (n := 9) (Nat.le_of_ble_eq_true rfl)
  rw [lg_entry_eq]
  generalize (lg_sl ([.ref b]) ++ List.replicate (9 - (lg_sl ([.ref b])).length) Slot.unset).toArray = ls at hl ⊢
  have hl : lv_has ls 9 [(0, .ref b)] := hl
  refine va_new (ci := 4) (fs := [.null, .null, .int 0]) (C := RX2) (T := TX2) (N := 3) hx hb hts (by decide +kernel) tyX2 tyX2_ok hown (hts (.classLink RL 8 RX2) (by decide +kernel)) (hts (.instantiable RX2 3) (by decide +kernel)) (hts (.initialized RX2) (by decide +kernel)) hK hP hD hS hA rfl (fun j hj => by rcases (show j = 0 ∨ j = 1 ∨ j = 2 by omega) with rfl | rfl | rfl <;> rfl) (Nat.le_of_ble_eq_true rfl) (Nat.le_of_ble_eq_true rfl) dL_law_0 (fun q0 H hP hD hS => ?_)
  have hP : va_P G vwCl [(q0, .inr (4, [.null, .null, .int 0]))] H := hP
  have hD : va_D (fun q : Nat => s.heap.size ≤ q) [(q0, .inr (4, [.null, .null, .int 0]))] := hD
  refine lv_dup hx hb dL_law_3 rfl ?_
  have hPc := hP.sub (ws' := [(q0, .inr (4, [.null, .null, .int 0]))]) [0] rfl
  have hDc := hD.sub (ws' := [(q0, .inr (4, [.null, .null, .int 0]))]) [0] (by decide) rfl
  have hKc := hK.sub (tys' := []) [] rfl
  have hFc := va_free (wc := [(q0, .inr (4, [.null, .null, .int 0]))]) hD hS hA [0] rfl
  refine va_callv (va_runI (As := []) (rest := [.ref q0]) ⟨hx, hb, hml, hown, hts⟩ (c_X2_init l G q0 H.size) (cwI 0 hts gL_law_X2_init rfl rfl rfl (hts (.initialized RX2) (by decide +kernel)) (hts (.methodLink RL 102 yX2_init) (by decide +kernel)) (hts (.instanceMethod yX2_init) (by decide +kernel)) rfl (by decide +kernel) ⟨Nat.le_of_ble_eq_true rfl, Nat.le_of_ble_eq_true rfl⟩) ⟨fun a U g mk q => ⟨q.1, q.2.1, q.2.2.1, va_K.moved (u := U) (U := U.calling g mk a) (Vm.Alike.refl U.vm) q.2.2.2.1, q.2.2.2.2.1, fun w hw => va_Nw.same (u := U) (U := U.calling g mk a) (ykind_tab (yNW_kind w hw)) rfl (q.2.2.2.2.2 w hw)⟩, fun U hU hW => ⟨rfl, by rw [hU], by rw [hU]; exact hPc, va_K.moved hW.alike hKc, hDc.weaken (fun _ _ _ _ => trivial), fun w hw => ykind_warm (yNW_kind w hw) hW (hE.1 w hw)⟩⟩ rfl rfl hl.1 rfl (lv_room (Nat.le_of_ble_eq_true rfl)) dL_law_4 ⟨Nat.le_of_ble_eq_true rfl, Nat.le_of_ble_eq_true rfl⟩) hS (fun q _ h => hFc q h) hFc (fun u t H1 locs1 ht hvm hw hB hz1 hk1 hS => ?_)
  obtain ⟨k0, a0, a1⟩ := u
  obtain ⟨hP1, hK1, hD1⟩ := hB
  rw [ht] at hP1
  have hK1 := va_K.moved hvm.symm hK1
  dsimp only at hw hP1 hK1 hD1
  obtain ⟨hP, hD⟩ := va_join (wr := []) (w1 := W2 k0 q0 a0 a1 (fun _ _ => 0) 0 (fun _ _ => 0) 0 0 0) hP hD [0] [] rfl rfl (by decide) (by decide) hk1 hFc hP1 hD1
  have hK := (hK.sub (tys' := []) [] rfl).app hK1
  have hP : va_P G vwCl (W2 k0 q0 a0 a1 (fun _ _ => 0) 0 (fun _ _ => 0) 0 0 0) H1 := hP
  have hD : va_D (fun q : Nat => s.heap.size ≤ q) (W2 k0 q0 a0 a1 (fun _ _ => 0) 0 (fun _ _ => 0) 0 0 0) := hD
  have hK : va_K G vwCl [(k0 0, .int), (k0 1, .boolean), (k0 2, .char)] s := hK
  refine lv_astore_n (lv' := [(1, .ref q0), (0, .ref b)]) hx hb dL_law_7 rfl hl (by decide) rfl (fun ls hl => ?_)
  refine va_new (ci := 5) (fs := [.null, .null, .null, .null, .null, .int 0, .null, .null, .null, .null, .null, .null, .null, .null, .null, .null, .int 0, .int 0, .int 0]) (C := RX3) (T := TX3) (N := 19) hx hb hts (by decide +kernel) tyX3 tyX3_ok hown (hts (.classLink RL 103 RX3) (by decide +kernel)) (hts (.instantiable RX3 19) (by decide +kernel)) (hts (.initialized RX3) (by decide +kernel)) hK hP hD hS hA rfl (fun j hj => by rcases (show j = 0 ∨ j = 1 ∨ j = 2 ∨ j = 3 ∨ j = 4 ∨ j = 5 ∨ j = 6 ∨ j = 7 ∨ j = 8 ∨ j = 9 ∨ j = 10 ∨ j = 11 ∨ j = 12 ∨ j = 13 ∨ j = 14 ∨ j = 15 ∨ j = 16 ∨ j = 17 ∨ j = 18 by omega) with rfl | rfl | rfl | rfl | rfl | rfl | rfl | rfl | rfl | rfl | rfl | rfl | rfl | rfl | rfl | rfl | rfl | rfl | rfl <;> rfl) (Nat.le_of_ble_eq_true rfl) (Nat.le_of_ble_eq_true rfl) dL_law_8 (fun q8 H hP hD hS => ?_)
  have hP : va_P G vwCl (W2 k0 q0 a0 a1 (fun _ _ => 0) 0 (fun _ _ => 0) 0 0 0 ++ [(q8, .inr (5, [.null, .null, .null, .null, .null, .int 0, .null, .null, .null, .null, .null, .null, .null, .null, .null, .null, .int 0, .int 0, .int 0]))]) H := hP
  have hD : va_D (fun q : Nat => s.heap.size ≤ q) (W2 k0 q0 a0 a1 (fun _ _ => 0) 0 (fun _ _ => 0) 0 0 0 ++ [(q8, .inr (5, [.null, .null, .null, .null, .null, .int 0, .null, .null, .null, .null, .null, .null, .null, .null, .null, .null, .int 0, .int 0, .int 0]))]) := hD
  refine lv_dup hx hb dL_law_11 rfl ?_
  have hPc := hP.sub (ws' := [(q8, .inr (5, [.null, .null, .null, .null, .null, .int 0, .null, .null, .null, .null, .null, .null, .null, .null, .null, .null, .int 0, .int 0, .int 0]))]) [20] rfl
  have hDc := hD.sub (ws' := [(q8, .inr (5, [.null, .null, .null, .null, .null, .int 0, .null, .null, .null, .null, .null, .null, .null, .null, .null, .null, .int 0, .int 0, .int 0]))]) [20] (by decide) rfl
  have hKc := hK.sub (tys' := []) [] rfl
  have hFc := va_free (wc := [(q8, .inr (5, [.null, .null, .null, .null, .null, .int 0, .null, .null, .null, .null, .null, .null, .null, .null, .null, .null, .int 0, .int 0, .int 0]))]) hD hS hA [20] rfl
  refine va_callv (va_runI (As := []) (rest := [.ref q8]) ⟨hx, hb, hml, hown, hts⟩ (c_X3_init l G q8 H.size) (cwI 0 hts gL_law_X3_init rfl rfl rfl (hts (.initialized RX3) (by decide +kernel)) (hts (.methodLink RL 105 yX3_init) (by decide +kernel)) (hts (.instanceMethod yX3_init) (by decide +kernel)) rfl (by decide +kernel) ⟨Nat.le_of_ble_eq_true rfl, Nat.le_of_ble_eq_true rfl⟩) ⟨fun a U g mk q => ⟨q.1, q.2.1, q.2.2.1, va_K.moved (u := U) (U := U.calling g mk a) (Vm.Alike.refl U.vm) q.2.2.2.1, q.2.2.2.2⟩, fun U hU hW => ⟨rfl, by rw [hU], by rw [hU]; exact hPc, va_K.moved hW.alike hKc, hDc.weaken (fun _ _ _ _ => trivial)⟩⟩ rfl rfl hl.1 rfl (lv_room (Nat.le_of_ble_eq_true rfl)) dL_law_12 ⟨Nat.le_of_ble_eq_true rfl, Nat.le_of_ble_eq_true rfl⟩) hS (fun q _ h => hFc q h) hFc (fun u t H1 locs1 ht hvm hw hB hz1 hk1 hS => ?_)
  obtain ⟨k1, a3⟩ := u
  obtain ⟨hP1, hK1, hD1⟩ := hB
  rw [ht] at hP1
  have hK1 := va_K.moved hvm.symm hK1
  dsimp only at hw hP1 hK1 hD1
  subst hw
  obtain ⟨hP, hD⟩ := va_join (wr := W2 k0 q0 a0 a1 (fun _ _ => 0) 0 (fun _ _ => 0) 0 0 0) (w1 := W3 k1 a3 (fun _ _ => 0) 0 (fun _ _ => 0) 0 0 0) hP hD [20] [0, 1, 2, 3, 4, 5, 6, 7, 8, 9, 10, 11, 12, 13, 14, 15, 16, 17, 18, 19] rfl rfl (by decide) (by decide) hk1 hFc hP1 hD1
  have hK := hK.app hK1
  have hK : va_K G vwCl [(k0 0, .int), (k0 1, .boolean), (k0 2, .char), (k1 0, .int), (k1 1, .boolean), (k1 2, .char)] s := hK
  have hP : va_P G vwCl (W2 k0 q0 a0 a1 (fun _ _ => 0) 0 (fun _ _ => 0) 0 0 0 ++ W3 k1 a3 (fun _ _ => 0) 0 (fun _ _ => 0) 0 0 0) H1 := hP
  have hD : va_D (fun q : Nat => s.heap.size ≤ q) (W2 k0 q0 a0 a1 (fun _ _ => 0) 0 (fun _ _ => 0) 0 0 0 ++ W3 k1 a3 (fun _ _ => 0) 0 (fun _ _ => 0) 0 0 0) := hD
  refine lv_astore_n (lv' := [(2, .ref (a3 0)), (1, .ref q0), (0, .ref b)]) hx hb dL_law_15 rfl hl (by decide) rfl (fun ls hl => ?_)
  refine lv_iconst (v := 1) hx hb dL_law_16 (by decide) ?_
  refine va_newa (atype := .long) (n := 1) (N' := 1) (a0 := (1, .inr (.inl (fun _ => 0)))) hx hb (hts (.arrayClass .long) (by decide +kernel)) rfl hK hP hD hS hA (fun _ => rfl) (by decide) rfl (by decide) (Nat.le_of_ble_eq_true rfl) (Nat.le_of_ble_eq_true rfl) dL_law_17 (fun oL cL H hK hP hD hS => ?_)
  refine lv_astore_n (lv' := [(3, .ref oL), (2, .ref (a3 0)), (1, .ref q0), (0, .ref b)]) hx hb dL_law_19 rfl hl (by decide) rfl (fun ls hl => ?_)
  refine lv_iconst (v := 1) hx hb dL_law_20 (by decide) ?_
  refine va_newa (atype := .double) (n := 1) (N' := 1) (a0 := (1, .inr (.inr (.inr (.inl (fun _ => 0)))))) hx hb (hts (.arrayClass .double) (by decide +kernel)) rfl hK hP hD hS hA (fun _ => rfl) (by decide) rfl (by decide) (Nat.le_of_ble_eq_true rfl) (Nat.le_of_ble_eq_true rfl) dL_law_21 (fun oD cD H hK hP hD hS => ?_)
  refine lv_astore (lv' := [(4, .ref oD), (3, .ref oL), (2, .ref (a3 0)), (1, .ref q0), (0, .ref b)]) hx hb dL_law_23 hl (by decide) rfl (fun ls hl => ?_)
  refine lv_iconst (v := 0) hx hb dL_law_25 (by decide) ?_
  refine lv_istore (lv' := [(5, .int 0), (4, .ref oD), (3, .ref oL), (2, .ref (a3 0)), (1, .ref q0), (0, .ref b)]) hx hb dL_law_26 hl (by decide) rfl (fun ls hl => ?_)
  have hK : va_K G vwCl [(k0 0, .int), (k0 1, .boolean), (k0 2, .char), (k1 0, .int), (k1 1, .boolean), (k1 2, .char), (cL, .long), (cD, .double)] s := hK
  have g0 : k1 0 = k0 0 := ySame hK (i := 3) (j := 0) (ty := .int) rfl rfl rfl
  have g1 : k1 1 = k0 1 := ySame hK (i := 4) (j := 1) (ty := .boolean) rfl rfl rfl
  have g2 : k1 2 = k0 2 := ySame hK (i := 5) (j := 2) (ty := .char) rfl rfl rfl
  obtain ⟨k, ek⟩ : ∃ z : Nat → ClassId, z = fun i => match i with | 0 => k0 0 | 1 => k0 1 | 2 => k0 2 | 3 => cL | _ => cD := ⟨_, rfl⟩
  have e2 : W2 k0 q0 a0 a1 (fun _ _ => 0) 0 (fun _ _ => 0) 0 0 0 = W2 k q0 a0 a1 (fun _ _ => 0) 0 (fun _ _ => 0) 0 0 0 := W2_k (by rw [ek]; try rfl) (by rw [ek]; try rfl) (by rw [ek]; try rfl)
  have e3 : W3 k1 a3 (fun _ _ => 0) 0 (fun _ _ => 0) 0 0 0 = W3 k a3 (fun _ _ => 0) 0 (fun _ _ => 0) 0 0 0 := W3_k (by rw [ek]; exact g0) (by rw [ek]; exact g1) (by rw [ek]; exact g2)
  have e4 : cL = k 3 := by rw [ek]; try rfl
  have e5 : cD = k 4 := by rw [ek]; try rfl
  rw [e2, e3, e4, e5] at hP hD
  have hK : va_K G vwCl (yT k) s := by rw [ek]; exact hK.sub [0, 1, 2, 6, 7] rfl
  have hP : va_P G vwCl (WA k oL (fun _ => 0) oD (fun _ => 0) q0 a0 a1 a3 (fun _ _ => 0) 0 (fun _ _ => 0) 0 0 0 (fun _ _ => 0) 0) H := hP.sub [36, 0, 1, 2, 3, 4, 5, 6, 7, 8, 9, 10, 11, 12, 13, 14, 15, 16, 17, 18, 19, 37, 20, 21, 22, 23, 24, 25, 26, 27, 28, 29, 30, 31, 32, 33, 34, 35] rfl
  have hD : va_D (fun q : Nat => s.heap.size ≤ q) (WA k oL (fun _ => 0) oD (fun _ => 0) q0 a0 a1 a3 (fun _ _ => 0) 0 (fun _ _ => 0) 0 0 0 (fun _ _ => 0) 0) := hD.sub [36, 0, 1, 2, 3, 4, 5, 6, 7, 8, 9, 10, 11, 12, 13, 14, 15, 16, 17, 18, 19, 37, 20, 21, 22, 23, 24, 25, 26, 27, 28, 29, 30, 31, 32, 33, 34, 35] (by decide) rfl
  exact law_loop (k := k) (G := G) ⟨hx, hb, hr, hml, hown, hts, hX, hbl, by omega, hK, hE, hNC, hl9⟩ hlocks hL (L + 1) 0 _ _ (by omega) (Nat.le_of_ble_eq_true rfl) (Nat.le_of_ble_eq_true rfl) (by omega) _ _ _ _ _ _ _ _ _ _ _ _ hP hD yY_0 hS ls (lv_sub hl [5, 4, 3, 2, 1, 0] rfl)
