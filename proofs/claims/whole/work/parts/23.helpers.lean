theorem y_f2d {M : Nat → Nat → Int32} {n1 : Nat} (hn1 : n1 ≤ 80) (h : (o_share M n1).1 = 0) : vf_n64 (FP.f2d (o_share M n1).2) := by
  unfold o_share at h ⊢
  by_cases h1 : n1 = 0
  · rw [if_pos h1] at h; exact absurd h (by decide)
  · rw [if_neg h1]
    have h2 : nI n1 ≠ 0 := fun h9 => h1 ((nI_eq (a := n1) (b := 0) (by omega) (by omega)).mp h9)
    have h3 := y_fnan (a := nI (cnt (fun z => decide (M 5 z = 100)) n1 0 0)) h2
    show vf_n64 (FP.f2d (FP.fdiv (FP.i2f (nI (cnt (fun z => decide (M 5 z = 100)) n1 0 0))) (FP.i2f (nI n1))))
    rw [FP.f2d_core h3]
    exact y_n64 (FP.Core.f2d_out h3)
set_option maxHeartbeats 4000000 in
set_option maxRecDepth 100000 in
theorem c_L_open (l : Launch) (hl9 : l.stackTraces = false) (G : va_G) (k : Nat → ClassId) (h : Nat) (a : Nat → Nat) (c : Nat → Nat) (C : Nat → Nat → Int32) (n0 : Nat) (M : Nat → Nat → Int32) (ds : Nat) (n1 : Nat) (d : Nat) (oL : Nat) (fL : Nat → Int64) (sz : Nat) (x due : Int32) (hND : va_D (fun _ => True) (WL k oL fL h a c C n0 M ds n1 d)) (hn : n0 ≤ 8) (hn1 : n1 ≤ 80) : Met l yL_open wsL_open ({ frames := 7, cells := 1, slots := 6, locals := 113 }) (va_Pc [.ref h, .int x, .int due, .ref oL] (yL G (yT k) (WL k oL fL h a c C n0 M ds n1 d) sz)) (va_Qi (fun (r : Int32) (f : Nat → Int64) => r = (o_open x due C n0 M n1 d).1 ∧ ((o_open x due C n0 M n1 d).1 = 0 → f 0 = ((o_open x due C n0 M n1 d).2.1).toInt64)) (fun f τ => va_P G vwCl (WL k oL f h a c ((o_open x due C n0 M n1 d).2.2.1) ((o_open x due C n0 M n1 d).2.2.2.2) ((o_open x due C n0 M n1 d).2.2.2.1) ds n1 d) τ.heap) (va_A (WL k oL fL h a c C n0 M ds n1 d) sz)) 1 6 (va_A (WL k oL fL h a c C n0 M ds n1 d) sz) := by
  refine va_MetW (cc := cL_open) (maxL := 5) (ret := (some .int)) (hh := [(0, 10, 13, 13), (0, 10, 17, 15)]) (by decide) rfl ?_
  intro p e s m args below meth c_ s₁ B hml hv
  obtain ⟨rfl, hsz, hP, hK, hE, hNC⟩ := hv
  have hE : yEV0 s s.heap := hE
  have hx := B.exec
  have hb := B.bytes
  have hr := B.returns
  have hts := atoms_spec (ws := wsL_open) B.pre
  have hown : s.vm.findClass RL = some m.cls := findClass_of_methodNamed B.named
  have hlocks := B.notSynchronized
  have htab : c_.exceptionTable.toList = tableOf [(0, 10, 13, 13), (0, 10, 17, 15)] := vx_table (x := yL_open) B (hts (.codeWith yL_open cL_open 5 (some .int) [(0, 10, 13, 13), (0, 10, 17, 15)]) List.mem_cons_self)
  subst hsz
  have hD := hND.self (sz := s.heap.size)
  have hA9 : ∀ q, va_A (W2 k h a c C n0 M ds n1 d) s.heap.size q → va_A (WL k oL fL h a c C n0 M ds n1 d) s.heap.size q := fun q h => yA_tl h
  generalize hAe : va_A (WL k oL fL h a c C n0 M ds n1 d) s.heap.size = A at hD hA9 ⊢
  have hA : ∀ q : Nat, s.heap.size ≤ q → A q := fun q h => by rw [← hAe]; exact Or.inr h
  have hS : va_S A s.heap s.heap [] := va_S.rf
  have hP2 : va_P G vwCl (W2 k h a c C n0 M ds n1 d) s.heap := yP_tl hP
  have hND2 : va_D (fun _ => True) (W2 k h a c C n0 M ds n1 d) := yD_tl hND
  have hl := lv_entry ([.ref h, .int x, .int due, .ref oL]) (n := 5) (Nat.le_of_ble_eq_true rfl)
  rw [lg_entry_eq]
  generalize (lg_sl ([.ref h, .int x, .int due, .ref oL]) ++ List.replicate (5 - (lg_sl ([.ref h, .int x, .int due, .ref oL])).length) Slot.unset).toArray = ls at hl ⊢
  have hl : lv_has ls 5 [(0, .ref h), (1, .int x), (2, .int due), (3, .ref oL)] := hl
  refine lv_aload_n hx hb dL_open_0 rfl (lv_at hl 3 rfl) ?_
  refine lv_iconst (v := 0) hx hb dL_open_1 (by decide) ?_
  refine lv_aload_n hx hb dL_open_2 rfl (lv_at hl 0 rfl) ?_
  refine lv_iload_n hx hb dL_open_3 rfl (lv_at hl 1 rfl) ?_
  refine lv_iload_n hx hb dL_open_4 rfl (lv_at hl 2 rfl) ?_
  refine y_hcall (vx_runV (As := [.int x, .int due]) (rest := [.int 0, .ref oL]) ⟨hx, hb, hml, hown, hts⟩ (c_X2_open l hl9 G k h a c C n0 M ds n1 d s.heap.size x due hND2 hn hn1) (cwV 2 hts gL_open_X2_open rfl rfl rfl (by decide +kernel) ⟨Nat.le_of_ble_eq_true rfl, Nat.le_of_ble_eq_true rfl⟩) ⟨yEs_blind, va_recv hK hP2 (ci := 4) (q0 := 0) rfl rfl, fun U hU hW => ⟨rfl, by rw [hU], by rw [hU]; exact hP2, va_K.moved hW.alike hK, yEV_at hE hU hW⟩⟩ rfl rfl hl.1 rfl (lv_room (Nat.le_of_ble_eq_true rfl)) dL_open_5 ⟨Nat.le_of_ble_eq_true rfl, Nat.le_of_ble_eq_true rfl⟩) hS (fun q _ h => hA9 q h) hA9 ?_ (fun r u9 t9 H1 locs1 ht9 hp9 hB9 hz9 hk9 hS9 => ?_)
  · intro E ce q9 H1 locs1 hpx hk9 hS9 hce hcv hcl
    rcases hpx with ⟨rfl, hcd⟩ | ⟨rfl, hcd⟩
    · have hcd9 : ¬ (o_open x due C n0 M n1 d).1 = 0 := by rw [hcd]; decide
      have hold := o_open_k hcd9
      have hPf : va_P G vwCl (WL k oL fL h a c ((o_open x due C n0 M n1 d).2.2.1) ((o_open x due C n0 M n1 d).2.2.2.2) ((o_open x due C n0 M n1 d).2.2.2.1) ds n1 d) H1 := by
        have h9 := yKeep hP hk9
        first | (rw [hold]; exact h9) | (simp only [hold]; exact h9)
      refine vx_catch (own := RL) (name := "java/lang/IllegalArgumentException") (E := "java/lang/IllegalArgumentException") (ce := ce) hown [] (⟨0, 10, 13, 13⟩ : ExceptionTableEntry) [(⟨0, 10, 17, 15⟩ : ExceptionTableEntry)] (by rw [htab]; rfl) (fun z hz => nomatch hz) (by decide) (by decide) (hts (.classLink RL 13 "java/lang/IllegalArgumentException") (by decide +kernel)) (va_Nw.use rfl (hE.1 (.castable "java/lang/IllegalArgumentException" "java/lang/IllegalArgumentException") (by decide +kernel))) hce hcv hcl ?_
      refine lv_astore (lv' := [(4, .ref q9), (0, .ref h), (1, .int x), (2, .int due), (3, .ref oL)]) hx hb dL_open_13 hl (by decide) rfl (fun ls hl => ?_)
      refine lv_iconst (v := 1) hx hb dL_open_15 (by decide) ?_
      exact W.iret (v := 1) hx hb hr (fun τ hτ hW => ⟨⟨_, fL, rfl, ⟨hcd.symm, fun h9 => absurd h9 hcd9⟩, yPt hPf hτ⟩, hS9.F hτ⟩) hS9.2.2 dL_open_16
    · have hcd9 : ¬ (o_open x due C n0 M n1 d).1 = 0 := by rw [hcd]; decide
      have hold := o_open_k hcd9
      have hPf : va_P G vwCl (WL k oL fL h a c ((o_open x due C n0 M n1 d).2.2.1) ((o_open x due C n0 M n1 d).2.2.2.2) ((o_open x due C n0 M n1 d).2.2.2.1) ds n1 d) H1 := by
        have h9 := yKeep hP hk9
        first | (rw [hold]; exact h9) | (simp only [hold]; exact h9)
      refine vx_catch (own := RL) (name := "java/lang/IllegalStateException") (E := "java/lang/IllegalStateException") (ce := ce) hown [(⟨0, 10, 13, 13⟩ : ExceptionTableEntry)] (⟨0, 10, 17, 15⟩ : ExceptionTableEntry) [] (by rw [htab]; rfl) (fun z hz => by rcases List.mem_singleton.mp hz with rfl; exact Or.inr ⟨by decide, "java/lang/IllegalArgumentException", hts (.classLink RL 13 "java/lang/IllegalArgumentException") (by decide +kernel), hNC ("java/lang/IllegalStateException", "java/lang/IllegalArgumentException") (by decide +kernel)⟩) (by decide) (by decide) (hts (.classLink RL 15 "java/lang/IllegalStateException") (by decide +kernel)) (va_Nw.use rfl (hE.1 (.castable "java/lang/IllegalStateException" "java/lang/IllegalStateException") (by decide +kernel))) hce hcv hcl ?_
      refine lv_astore (lv' := [(4, .ref q9), (0, .ref h), (1, .int x), (2, .int due), (3, .ref oL)]) hx hb dL_open_17 hl (by decide) rfl (fun ls hl => ?_)
      refine lv_iconst (v := 2) hx hb dL_open_19 (by decide) ?_
      exact W.iret (v := 2) hx hb hr (fun τ hτ hW => ⟨⟨_, fL, rfl, ⟨hcd.symm, fun h9 => absurd h9 hcd9⟩, yPt hPf hτ⟩, hS9.F hτ⟩) hS9.2.2 dL_open_20
  · obtain ⟨hp8, hp9⟩ := hp9
    have hB9 : va_P G vwCl (W2 k h a c ((o_open x due C n0 M n1 d).2.2.1) ((o_open x due C n0 M n1 d).2.2.2.2) ((o_open x due C n0 M n1 d).2.2.2.1) ds n1 d) H1 := by rw [← ht9]; exact hB9
    have hP9 : va_P G vwCl (WL k oL fL h a c ((o_open x due C n0 M n1 d).2.2.1) ((o_open x due C n0 M n1 d).2.2.2.2) ((o_open x due C n0 M n1 d).2.2.2.1) ds n1 d) H1 := JL hP hD hk9 hB9
    have hD9 : va_D A (WL k oL fL h a c ((o_open x due C n0 M n1 d).2.2.1) ((o_open x due C n0 M n1 d).2.2.2.2) ((o_open x due C n0 M n1 d).2.2.2.1) ds n1 d) := yD hD rfl
    subst hp9
    refine lv_i2l (v := ((o_open x due C n0 M n1 d).2.1).toInt64) hx hb dL_open_8 rfl ?_
    refine va_last hx hb hK hP9 hD9 hS9 0 3 rfl rfl (x := (((o_open x due C n0 M n1 d).2.1).toInt64)) (vp_in_nI (n := 0) (N := 1) (by decide) (by decide)) dL_open_9 (fun H2 locs2 hP8 hD8 hS8 => ?_)
    have hPf : va_P G vwCl (WL k oL (vp_updL fL 0 (((o_open x due C n0 M n1 d).2.1).toInt64)) h a c ((o_open x due C n0 M n1 d).2.2.1) ((o_open x due C n0 M n1 d).2.2.2.2) ((o_open x due C n0 M n1 d).2.2.2.1) ds n1 d) H2 := hP8
    refine lv_goto (tgt := 21) hx hb dL_open_10 (by decide) ?_
    refine lv_iconst (v := 0) hx hb dL_open_21 (by decide) ?_
    exact W.iret (v := 0) hx hb hr (fun τ hτ hW => ⟨⟨_, (vp_updL fL 0 (((o_open x due C n0 M n1 d).2.1).toInt64)), rfl, ⟨hp8.symm, fun _ => by rfl⟩, yPt hPf hτ⟩, hS8.F hτ⟩) hS8.2.2 dL_open_22

set_option maxHeartbeats 4000000 in
set_option maxRecDepth 100000 in
theorem c_L_amount (l : Launch) (hl9 : l.stackTraces = false) (G : va_G) (k : Nat → ClassId) (h : Nat) (a : Nat → Nat) (c : Nat → Nat) (C : Nat → Nat → Int32) (n0 : Nat) (M : Nat → Nat → Int32) (ds : Nat) (n1 : Nat) (d : Nat) (oL : Nat) (fL : Nat → Int64) (sz : Nat) (x : Int32) (hND : va_D (fun _ => True) (WL k oL fL h a c C n0 M ds n1 d)) (hn : n0 ≤ 8) : Met l yL_amount wsL_amount ({ frames := 8, cells := 1, slots := 6, locals := 132 }) (va_Pc [.ref h, .int x, .ref oL] (yL G (yT k) (WL k oL fL h a c C n0 M ds n1 d) sz)) (va_Qi (fun (r : Int32) (f : Nat → Int64) => r = (o_amount x C n0).1 ∧ ((o_amount x C n0).1 = 0 → f 0 = ((o_amount x C n0).2).toInt64)) (fun f τ => va_P G vwCl (WL k oL f h a c C n0 M ds n1 d) τ.heap) (va_A (WL k oL fL h a c C n0 M ds n1 d) sz)) 1 6 (va_A (WL k oL fL h a c C n0 M ds n1 d) sz) := by
  refine va_MetW (cc := cL_amount) (maxL := 4) (ret := (some .int)) (hh := [(0, 9, 12, 21)]) (by decide) rfl ?_
  intro p e s m args below meth c_ s₁ B hml hv
  obtain ⟨rfl, hsz, hP, hK, hE, hNC⟩ := hv
  have hE : yEV0 s s.heap := hE
  have hx := B.exec
  have hb := B.bytes
  have hr := B.returns
  have hts := atoms_spec (ws := wsL_amount) B.pre
  have hown : s.vm.findClass RL = some m.cls := findClass_of_methodNamed B.named
  have hlocks := B.notSynchronized
  have htab : c_.exceptionTable.toList = tableOf [(0, 9, 12, 21)] := vx_table (x := yL_amount) B (hts (.codeWith yL_amount cL_amount 4 (some .int) [(0, 9, 12, 21)]) List.mem_cons_self)
  subst hsz
  have hD := hND.self (sz := s.heap.size)
  have hA9 : ∀ q, va_A (W2 k h a c C n0 M ds n1 d) s.heap.size q → va_A (WL k oL fL h a c C n0 M ds n1 d) s.heap.size q := fun q h => yA_tl h
  generalize hAe : va_A (WL k oL fL h a c C n0 M ds n1 d) s.heap.size = A at hD hA9 ⊢
  have hA : ∀ q : Nat, s.heap.size ≤ q → A q := fun q h => by rw [← hAe]; exact Or.inr h
  have hS : va_S A s.heap s.heap [] := va_S.rf
  have hP2 : va_P G vwCl (W2 k h a c C n0 M ds n1 d) s.heap := yP_tl hP
  have hND2 : va_D (fun _ => True) (W2 k h a c C n0 M ds n1 d) := yD_tl hND
  have hl := lv_entry ([.ref h, .int x, .ref oL]) (n := 4) (Nat.le_of_ble_eq_true rfl)
  rw [lg_entry_eq]
  generalize (lg_sl ([.ref h, .int x, .ref oL]) ++ List.replicate (4 - (lg_sl ([.ref h, .int x, .ref oL])).length) Slot.unset).toArray = ls at hl ⊢
  have hl : lv_has ls 4 [(0, .ref h), (1, .int x), (2, .ref oL)] := hl
  refine lv_aload_n hx hb dL_amount_0 rfl (lv_at hl 2 rfl) ?_
  refine lv_iconst (v := 0) hx hb dL_amount_1 (by decide) ?_
  refine lv_aload_n hx hb dL_amount_2 rfl (lv_at hl 0 rfl) ?_
  refine lv_iload_n hx hb dL_amount_3 rfl (lv_at hl 1 rfl) ?_
  refine y_hread (mk := Value.int) yQi (vx_runV (As := [.int x]) (rest := [.int 0, .ref oL]) ⟨hx, hb, hml, hown, hts⟩ (c_X2_amount l hl9 G k h a c C n0 M ds n1 d  x  hn) (cwV 1 hts gL_amount_X2_amount rfl rfl rfl (by decide +kernel) ⟨Nat.le_of_ble_eq_true rfl, Nat.le_of_ble_eq_true rfl⟩) ⟨yE_blind, va_recv hK hP2 (ci := 4) (q0 := 0) rfl rfl, fun U hU hW => ⟨rfl, by rw [hU]; exact hP2, va_K.moved hW.alike hK, yEV_at hE hU hW⟩⟩ rfl rfl hl.1 rfl (lv_room (Nat.le_of_ble_eq_true rfl)) dL_amount_4 ⟨Nat.le_of_ble_eq_true rfl, Nat.le_of_ble_eq_true rfl⟩) hS ?_ (fun r hp9 => ?_)
  · intro E ce q9 H1 locs1 hpx hk9 hS9 hce hcv hcl
    rcases hpx with ⟨rfl, hcd⟩
    · have hcd9 : ¬ (o_amount x C n0).1 = 0 := by rw [hcd]; decide
      have hPf : va_P G vwCl (WL k oL fL h a c C n0 M ds n1 d) H1 := yKeep hP hk9
      refine vx_catch (own := RL) (name := "java/lang/IndexOutOfBoundsException") (E := "java/lang/IndexOutOfBoundsException") (ce := ce) hown [] (⟨0, 9, 12, 21⟩ : ExceptionTableEntry) [] (by rw [htab]; rfl) (fun z hz => nomatch hz) (by decide) (by decide) (hts (.classLink RL 21 "java/lang/IndexOutOfBoundsException") (by decide +kernel)) (va_Nw.use rfl (hE.1 (.castable "java/lang/IndexOutOfBoundsException" "java/lang/IndexOutOfBoundsException") (by decide +kernel))) hce hcv hcl ?_
      refine lv_astore_n (lv' := [(3, .ref q9), (0, .ref h), (1, .int x), (2, .ref oL)]) hx hb dL_amount_12 rfl hl (by decide) rfl (fun ls hl => ?_)
      refine lv_iconst (v := 1) hx hb dL_amount_13 (by decide) ?_
      exact W.iret (v := 1) hx hb hr (fun τ hτ hW => ⟨⟨_, fL, rfl, ⟨hcd.symm, fun h9 => absurd h9 hcd9⟩, yPt hPf hτ⟩, hS9.F hτ⟩) hS9.2.2 dL_amount_14
  · obtain ⟨hp8, hp9⟩ := hp9
    have hP9 := hP
    have hD9 := hD
    have hS9 := hS
    subst hp9
    refine lv_i2l (v := ((o_amount x C n0).2).toInt64) hx hb dL_amount_7 rfl ?_
    refine va_last hx hb hK hP9 hD9 hS9 0 3 rfl rfl (x := (((o_amount x C n0).2).toInt64)) (vp_in_nI (n := 0) (N := 1) (by decide) (by decide)) dL_amount_8 (fun H2 locs2 hP8 hD8 hS8 => ?_)
    have hPf : va_P G vwCl (WL k oL (vp_updL fL 0 (((o_amount x C n0).2).toInt64)) h a c C n0 M ds n1 d) H2 := hP8
    refine lv_goto (tgt := 15) hx hb dL_amount_9 (by decide) ?_
    refine lv_iconst (v := 0) hx hb dL_amount_15 (by decide) ?_
    exact W.iret (v := 0) hx hb hr (fun τ hτ hW => ⟨⟨_, (vp_updL fL 0 (((o_amount x C n0).2).toInt64)), rfl, ⟨hp8.symm, fun _ => by rfl⟩, yPt hPf hτ⟩, hS8.F hτ⟩) hS8.2.2 dL_amount_16

set_option maxHeartbeats 4000000 in
set_option maxRecDepth 100000 in
theorem c_L_pause (l : Launch) (hl9 : l.stackTraces = false) (G : va_G) (k : Nat → ClassId) (h : Nat) (a : Nat → Nat) (c : Nat → Nat) (C : Nat → Nat → Int32) (n0 : Nat) (M : Nat → Nat → Int32) (ds : Nat) (n1 : Nat) (d : Nat) (oL : Nat) (fL : Nat → Int64) (sz : Nat) (x dd : Int32) (hND : va_D (fun _ => True) (WL k oL fL h a c C n0 M ds n1 d)) (hn : n0 ≤ 8) (hC : ∀ z, z < n0 → 0 ≤ C 0 z) : Met l yL_pause wsL_pause ({ frames := 8, cells := 3, slots := 18, locals := 133 }) (va_Pc [.ref h, .int x, .int dd, .ref oL] (yL G (yT k) (WL k oL fL h a c C n0 M ds n1 d) sz)) (va_Qi (fun (r : Int32) (f : Nat → Int64) => r = (o_pause x dd C n0 d).1 ∧ ((o_pause x dd C n0 d).1 = 0 → f 0 = ((o_pause x dd C n0 d).2.1).toInt64)) (fun f τ => va_P G vwCl (WL k oL f h a c ((o_pause x dd C n0 d).2.2) n0 M ds n1 d) τ.heap) (va_A (WL k oL fL h a c C n0 M ds n1 d) sz)) 3 18 (va_A (WL k oL fL h a c C n0 M ds n1 d) sz) := by
  refine va_MetW (cc := cL_pause) (maxL := 5) (ret := (some .int)) (hh := [(0, 10, 13, 21), (0, 10, 17, 13), (0, 10, 21, 15)]) (by decide) rfl ?_
  intro p e s m args below meth c_ s₁ B hml hv
  obtain ⟨rfl, hsz, hP, hK, hE, hNC⟩ := hv
  have hE : yEV0 s s.heap := hE
  have hx := B.exec
  have hb := B.bytes
  have hr := B.returns
  have hts := atoms_spec (ws := wsL_pause) B.pre
  have hown : s.vm.findClass RL = some m.cls := findClass_of_methodNamed B.named
  have hlocks := B.notSynchronized
  have htab : c_.exceptionTable.toList = tableOf [(0, 10, 13, 21), (0, 10, 17, 13), (0, 10, 21, 15)] := vx_table (x := yL_pause) B (hts (.codeWith yL_pause cL_pause 5 (some .int) [(0, 10, 13, 21), (0, 10, 17, 13), (0, 10, 21, 15)]) List.mem_cons_self)
  subst hsz
  have hD := hND.self (sz := s.heap.size)
  have hA9 : ∀ q, va_A (W2 k h a c C n0 M ds n1 d) s.heap.size q → va_A (WL k oL fL h a c C n0 M ds n1 d) s.heap.size q := fun q h => yA_tl h
  generalize hAe : va_A (WL k oL fL h a c C n0 M ds n1 d) s.heap.size = A at hD hA9 ⊢
  have hA : ∀ q : Nat, s.heap.size ≤ q → A q := fun q h => by rw [← hAe]; exact Or.inr h
  have hS : va_S A s.heap s.heap [] := va_S.rf
  have hP2 : va_P G vwCl (W2 k h a c C n0 M ds n1 d) s.heap := yP_tl hP
  have hND2 : va_D (fun _ => True) (W2 k h a c C n0 M ds n1 d) := yD_tl hND
  have hl := lv_entry ([.ref h, .int x, .int dd, .ref oL]) (n := 5) (Nat.le_of_ble_eq_true rfl)
  rw [lg_entry_eq]
  generalize (lg_sl ([.ref h, .int x, .int dd, .ref oL]) ++ List.replicate (5 - (lg_sl ([.ref h, .int x, .int dd, .ref oL])).length) Slot.unset).toArray = ls at hl ⊢
  have hl : lv_has ls 5 [(0, .ref h), (1, .int x), (2, .int dd), (3, .ref oL)] := hl
  refine lv_aload_n hx hb dL_pause_0 rfl (lv_at hl 3 rfl) ?_
  refine lv_iconst (v := 0) hx hb dL_pause_1 (by decide) ?_
  refine lv_aload_n hx hb dL_pause_2 rfl (lv_at hl 0 rfl) ?_
  refine lv_iload_n hx hb dL_pause_3 rfl (lv_at hl 1 rfl) ?_
  refine lv_iload_n hx hb dL_pause_4 rfl (lv_at hl 2 rfl) ?_
  refine y_hcall (vx_runV (As := [.int x, .int dd]) (rest := [.int 0, .ref oL]) ⟨hx, hb, hml, hown, hts⟩ (c_X2_pause l hl9 G k h a c C n0 M ds n1 d s.heap.size x dd hND2 hn hC) (cwV 2 hts gL_pause_X2_pause rfl rfl rfl (by decide +kernel) ⟨Nat.le_of_ble_eq_true rfl, Nat.le_of_ble_eq_true rfl⟩) ⟨yEs_blind, va_recv hK hP2 (ci := 4) (q0 := 0) rfl rfl, fun U hU hW => ⟨rfl, by rw [hU], by rw [hU]; exact hP2, va_K.moved hW.alike hK, yEV_at hE hU hW⟩⟩ rfl rfl hl.1 rfl (lv_room (Nat.le_of_ble_eq_true rfl)) dL_pause_5 ⟨Nat.le_of_ble_eq_true rfl, Nat.le_of_ble_eq_true rfl⟩) hS (fun q _ h => hA9 q h) hA9 ?_ (fun r u9 t9 H1 locs1 ht9 hp9 hB9 hz9 hk9 hS9 => ?_)
  · intro E ce q9 H1 locs1 hpx hk9 hS9 hce hcv hcl
    rcases hpx with ⟨rfl, hcd⟩ | ⟨rfl, hcd⟩ | ⟨rfl, hcd⟩
    · have hcd9 : ¬ (o_pause x dd C n0 d).1 = 0 := by rw [hcd]; decide
      have hold := o_pause_k hcd9
      have hPf : va_P G vwCl (WL k oL fL h a c ((o_pause x dd C n0 d).2.2) n0 M ds n1 d) H1 := by
        have h9 := yKeep hP hk9
        first | (rw [hold]; exact h9) | (simp only [hold]; exact h9)
      refine vx_catch (own := RL) (name := "java/lang/IndexOutOfBoundsException") (E := "java/lang/IndexOutOfBoundsException") (ce := ce) hown [] (⟨0, 10, 13, 21⟩ : ExceptionTableEntry) [(⟨0, 10, 17, 13⟩ : ExceptionTableEntry), (⟨0, 10, 21, 15⟩ : ExceptionTableEntry)] (by rw [htab]; rfl) (fun z hz => nomatch hz) (by decide) (by decide) (hts (.classLink RL 21 "java/lang/IndexOutOfBoundsException") (by decide +kernel)) (va_Nw.use rfl (hE.1 (.castable "java/lang/IndexOutOfBoundsException" "java/lang/IndexOutOfBoundsException") (by decide +kernel))) hce hcv hcl ?_
      refine lv_astore (lv' := [(4, .ref q9), (0, .ref h), (1, .int x), (2, .int dd), (3, .ref oL)]) hx hb dL_pause_13 hl (by decide) rfl (fun ls hl => ?_)
      refine lv_iconst (v := 1) hx hb dL_pause_15 (by decide) ?_
      exact W.iret (v := 1) hx hb hr (fun τ hτ hW => ⟨⟨_, fL, rfl, ⟨hcd.symm, fun h9 => absurd h9 hcd9⟩, yPt hPf hτ⟩, hS9.F hτ⟩) hS9.2.2 dL_pause_16
    · have hcd9 : ¬ (o_pause x dd C n0 d).1 = 0 := by rw [hcd]; decide
      have hold := o_pause_k hcd9
      have hPf : va_P G vwCl (WL k oL fL h a c ((o_pause x dd C n0 d).2.2) n0 M ds n1 d) H1 := by
        have h9 := yKeep hP hk9
        first | (rw [hold]; exact h9) | (simp only [hold]; exact h9)
      refine vx_catch (own := RL) (name := "java/lang/IllegalArgumentException") (E := "java/lang/IllegalArgumentException") (ce := ce) hown [(⟨0, 10, 13, 21⟩ : ExceptionTableEntry)] (⟨0, 10, 17, 13⟩ : ExceptionTableEntry) [(⟨0, 10, 21, 15⟩ : ExceptionTableEntry)] (by rw [htab]; rfl) (fun z hz => by rcases List.mem_singleton.mp hz with rfl; exact Or.inr ⟨by decide, "java/lang/IndexOutOfBoundsException", hts (.classLink RL 21 "java/lang/IndexOutOfBoundsException") (by decide +kernel), hNC ("java/lang/IllegalArgumentException", "java/lang/IndexOutOfBoundsException") (by decide +kernel)⟩) (by decide) (by decide) (hts (.classLink RL 13 "java/lang/IllegalArgumentException") (by decide +kernel)) (va_Nw.use rfl (hE.1 (.castable "java/lang/IllegalArgumentException" "java/lang/IllegalArgumentException") (by decide +kernel))) hce hcv hcl ?_
      refine lv_astore (lv' := [(4, .ref q9), (0, .ref h), (1, .int x), (2, .int dd), (3, .ref oL)]) hx hb dL_pause_17 hl (by decide) rfl (fun ls hl => ?_)
      refine lv_iconst (v := 2) hx hb dL_pause_19 (by decide) ?_
      exact W.iret (v := 2) hx hb hr (fun τ hτ hW => ⟨⟨_, fL, rfl, ⟨hcd.symm, fun h9 => absurd h9 hcd9⟩, yPt hPf hτ⟩, hS9.F hτ⟩) hS9.2.2 dL_pause_20
    · have hcd9 : ¬ (o_pause x dd C n0 d).1 = 0 := by rw [hcd]; decide
      have hold := o_pause_k hcd9
      have hPf : va_P G vwCl (WL k oL fL h a c ((o_pause x dd C n0 d).2.2) n0 M ds n1 d) H1 := by
        have h9 := yKeep hP hk9
        first | (rw [hold]; exact h9) | (simp only [hold]; exact h9)
      refine vx_catch (own := RL) (name := "java/lang/IllegalStateException") (E := "java/lang/IllegalStateException") (ce := ce) hown [(⟨0, 10, 13, 21⟩ : ExceptionTableEntry), (⟨0, 10, 17, 13⟩ : ExceptionTableEntry)] (⟨0, 10, 21, 15⟩ : ExceptionTableEntry) [] (by rw [htab]; rfl) (fun z hz => (List.mem_cons.mp hz).elim (fun h9 => by subst h9; exact Or.inr ⟨by decide, "java/lang/IndexOutOfBoundsException", hts (.classLink RL 21 "java/lang/IndexOutOfBoundsException") (by decide +kernel), hNC ("java/lang/IllegalStateException", "java/lang/IndexOutOfBoundsException") (by decide +kernel)⟩) (fun h9 => by rcases List.mem_singleton.mp h9 with rfl; exact Or.inr ⟨by decide, "java/lang/IllegalArgumentException", hts (.classLink RL 13 "java/lang/IllegalArgumentException") (by decide +kernel), hNC ("java/lang/IllegalStateException", "java/lang/IllegalArgumentException") (by decide +kernel)⟩)) (by decide) (by decide) (hts (.classLink RL 15 "java/lang/IllegalStateException") (by decide +kernel)) (va_Nw.use rfl (hE.1 (.castable "java/lang/IllegalStateException" "java/lang/IllegalStateException") (by decide +kernel))) hce hcv hcl ?_
      refine lv_astore (lv' := [(4, .ref q9), (0, .ref h), (1, .int x), (2, .int dd), (3, .ref oL)]) hx hb dL_pause_21 hl (by decide) rfl (fun ls hl => ?_)
      refine lv_iconst (v := 3) hx hb dL_pause_23 (by decide) ?_
      exact W.iret (v := 3) hx hb hr (fun τ hτ hW => ⟨⟨_, fL, rfl, ⟨hcd.symm, fun h9 => absurd h9 hcd9⟩, yPt hPf hτ⟩, hS9.F hτ⟩) hS9.2.2 dL_pause_24
  · obtain ⟨hp8, hp9⟩ := hp9
    have hB9 : va_P G vwCl (W2 k h a c ((o_pause x dd C n0 d).2.2) n0 M ds n1 d) H1 := by rw [← ht9]; exact hB9
    have hP9 : va_P G vwCl (WL k oL fL h a c ((o_pause x dd C n0 d).2.2) n0 M ds n1 d) H1 := JL hP hD hk9 hB9
    have hD9 : va_D A (WL k oL fL h a c ((o_pause x dd C n0 d).2.2) n0 M ds n1 d) := yD hD rfl
    subst hp9
    refine lv_i2l (v := ((o_pause x dd C n0 d).2.1).toInt64) hx hb dL_pause_8 rfl ?_
    refine va_last hx hb hK hP9 hD9 hS9 0 3 rfl rfl (x := (((o_pause x dd C n0 d).2.1).toInt64)) (vp_in_nI (n := 0) (N := 1) (by decide) (by decide)) dL_pause_9 (fun H2 locs2 hP8 hD8 hS8 => ?_)
    have hPf : va_P G vwCl (WL k oL (vp_updL fL 0 (((o_pause x dd C n0 d).2.1).toInt64)) h a c ((o_pause x dd C n0 d).2.2) n0 M ds n1 d) H2 := hP8
    refine lv_goto (tgt := 25) hx hb dL_pause_10 (by decide) ?_
    refine lv_iconst (v := 0) hx hb dL_pause_25 (by decide) ?_
    exact W.iret (v := 0) hx hb hr (fun τ hτ hW => ⟨⟨_, (vp_updL fL 0 (((o_pause x dd C n0 d).2.1).toInt64)), rfl, ⟨hp8.symm, fun _ => by rfl⟩, yPt hPf hτ⟩, hS8.F hτ⟩) hS8.2.2 dL_pause_26

set_option maxHeartbeats 4000000 in
set_option maxRecDepth 100000 in
theorem c_L_awaitNote (l : Launch) (hl9 : l.stackTraces = false) (G : va_G) (k : Nat → ClassId) (h : Nat) (a : Nat → Nat) (c : Nat → Nat) (C : Nat → Nat → Int32) (n0 : Nat) (M : Nat → Nat → Int32) (ds : Nat) (n1 : Nat) (d : Nat) (oL : Nat) (fL : Nat → Int64) (sz : Nat) (x : Int32) (hND : va_D (fun _ => True) (WL k oL fL h a c C n0 M ds n1 d)) (hn : n0 ≤ 8) (hC : ∀ z, z < n0 → 0 ≤ C 0 z) (hw : ∀ z, z < n0 → C 4 z = 0 ∨ C 4 z = 1) : Met l yL_awaitNote wsL_awaitNote ({ frames := 8, cells := 2, slots := 12, locals := 133 }) (va_Pc [.ref h, .int x, .ref oL] (yL G (yT k) (WL k oL fL h a c C n0 M ds n1 d) sz)) (va_Qi (fun (r : Int32) (f : Nat → Int64) => r = (o_awaitNote x C n0).1 ∧ ((o_awaitNote x C n0).1 = 0 → f 0 = (if (o_awaitNote x C n0).2.1 = 0 then 0 else 1))) (fun f τ => va_P G vwCl (WL k oL f h a c ((o_awaitNote x C n0).2.2) n0 M ds n1 d) τ.heap) (va_A (WL k oL fL h a c C n0 M ds n1 d) sz)) 2 12 (va_A (WL k oL fL h a c C n0 M ds n1 d) sz) := by
  refine va_MetW (cc := cL_awaitNote) (maxL := 4) (ret := (some .int)) (hh := [(0, 16, 19, 21), (0, 16, 22, 15)]) (by decide) rfl ?_
  intro p e s m args below meth c_ s₁ B hml hv
  obtain ⟨rfl, hsz, hP, hK, hE, hNC⟩ := hv
  have hE : yEV0 s s.heap := hE
  have hx := B.exec
  have hb := B.bytes
  have hr := B.returns
  have hts := atoms_spec (ws := wsL_awaitNote) B.pre
  have hown : s.vm.findClass RL = some m.cls := findClass_of_methodNamed B.named
  have hlocks := B.notSynchronized
  have htab : c_.exceptionTable.toList = tableOf [(0, 16, 19, 21), (0, 16, 22, 15)] := vx_table (x := yL_awaitNote) B (hts (.codeWith yL_awaitNote cL_awaitNote 4 (some .int) [(0, 16, 19, 21), (0, 16, 22, 15)]) List.mem_cons_self)
  subst hsz
  have hD := hND.self (sz := s.heap.size)
  have hA9 : ∀ q, va_A (W2 k h a c C n0 M ds n1 d) s.heap.size q → va_A (WL k oL fL h a c C n0 M ds n1 d) s.heap.size q := fun q h => yA_tl h
  generalize hAe : va_A (WL k oL fL h a c C n0 M ds n1 d) s.heap.size = A at hD hA9 ⊢
  have hA : ∀ q : Nat, s.heap.size ≤ q → A q := fun q h => by rw [← hAe]; exact Or.inr h
  have hS : va_S A s.heap s.heap [] := va_S.rf
  have hP2 : va_P G vwCl (W2 k h a c C n0 M ds n1 d) s.heap := yP_tl hP
  have hND2 : va_D (fun _ => True) (W2 k h a c C n0 M ds n1 d) := yD_tl hND
  have hl := lv_entry ([.ref h, .int x, .ref oL]) (n := 4) (Nat.le_of_ble_eq_true rfl)
  rw [lg_entry_eq]
  generalize (lg_sl ([.ref h, .int x, .ref oL]) ++ List.replicate (4 - (lg_sl ([.ref h, .int x, .ref oL])).length) Slot.unset).toArray = ls at hl ⊢
  have hl : lv_has ls 4 [(0, .ref h), (1, .int x), (2, .ref oL)] := hl
  refine lv_aload_n hx hb dL_awaitNote_0 rfl (lv_at hl 2 rfl) ?_
  refine lv_iconst (v := 0) hx hb dL_awaitNote_1 (by decide) ?_
  refine lv_aload_n hx hb dL_awaitNote_2 rfl (lv_at hl 0 rfl) ?_
  refine lv_iload_n hx hb dL_awaitNote_3 rfl (lv_at hl 1 rfl) ?_
  refine y_hcall (vx_runV (As := [.int x]) (rest := [.int 0, .ref oL]) ⟨hx, hb, hml, hown, hts⟩ (c_X2_awaitNote l hl9 G k h a c C n0 M ds n1 d s.heap.size x hND2 hn hC hw) (cwV 1 hts gL_awaitNote_X2_awaitNote rfl rfl rfl (by decide +kernel) ⟨Nat.le_of_ble_eq_true rfl, Nat.le_of_ble_eq_true rfl⟩) ⟨yEs_blind, va_recv hK hP2 (ci := 4) (q0 := 0) rfl rfl, fun U hU hW => ⟨rfl, by rw [hU], by rw [hU]; exact hP2, va_K.moved hW.alike hK, yEV_at hE hU hW⟩⟩ rfl rfl hl.1 rfl (lv_room (Nat.le_of_ble_eq_true rfl)) dL_awaitNote_4 ⟨Nat.le_of_ble_eq_true rfl, Nat.le_of_ble_eq_true rfl⟩) hS (fun q _ h => hA9 q h) hA9 ?_ (fun r u9 t9 H1 locs1 ht9 hp9 hB9 hz9 hk9 hS9 => ?_)
  · intro E ce q9 H1 locs1 hpx hk9 hS9 hce hcv hcl
    rcases hpx with ⟨rfl, hcd⟩ | ⟨rfl, hcd⟩
    · have hcd9 : ¬ (o_awaitNote x C n0).1 = 0 := by rw [hcd]; decide
      have hold := o_awaitNote_k hcd9
      have hPf : va_P G vwCl (WL k oL fL h a c ((o_awaitNote x C n0).2.2) n0 M ds n1 d) H1 := by
        have h9 := yKeep hP hk9
        first | (rw [hold]; exact h9) | (simp only [hold]; exact h9)
      refine vx_catch (own := RL) (name := "java/lang/IndexOutOfBoundsException") (E := "java/lang/IndexOutOfBoundsException") (ce := ce) hown [] (⟨0, 16, 19, 21⟩ : ExceptionTableEntry) [(⟨0, 16, 22, 15⟩ : ExceptionTableEntry)] (by rw [htab]; rfl) (fun z hz => nomatch hz) (by decide) (by decide) (hts (.classLink RL 21 "java/lang/IndexOutOfBoundsException") (by decide +kernel)) (va_Nw.use rfl (hE.1 (.castable "java/lang/IndexOutOfBoundsException" "java/lang/IndexOutOfBoundsException") (by decide +kernel))) hce hcv hcl ?_
      refine lv_astore_n (lv' := [(3, .ref q9), (0, .ref h), (1, .int x), (2, .ref oL)]) hx hb dL_awaitNote_19 rfl hl (by decide) rfl (fun ls hl => ?_)
      refine lv_iconst (v := 1) hx hb dL_awaitNote_20 (by decide) ?_
      exact W.iret (v := 1) hx hb hr (fun τ hτ hW => ⟨⟨_, fL, rfl, ⟨hcd.symm, fun h9 => absurd h9 hcd9⟩, yPt hPf hτ⟩, hS9.F hτ⟩) hS9.2.2 dL_awaitNote_21
    · have hcd9 : ¬ (o_awaitNote x C n0).1 = 0 := by rw [hcd]; decide
      have hold := o_awaitNote_k hcd9
      have hPf : va_P G vwCl (WL k oL fL h a c ((o_awaitNote x C n0).2.2) n0 M ds n1 d) H1 := by
        have h9 := yKeep hP hk9
        first | (rw [hold]; exact h9) | (simp only [hold]; exact h9)
      refine vx_catch (own := RL) (name := "java/lang/IllegalStateException") (E := "java/lang/IllegalStateException") (ce := ce) hown [(⟨0, 16, 19, 21⟩ : ExceptionTableEntry)] (⟨0, 16, 22, 15⟩ : ExceptionTableEntry) [] (by rw [htab]; rfl) (fun z hz => by rcases List.mem_singleton.mp hz with rfl; exact Or.inr ⟨by decide, "java/lang/IndexOutOfBoundsException", hts (.classLink RL 21 "java/lang/IndexOutOfBoundsException") (by decide +kernel), hNC ("java/lang/IllegalStateException", "java/lang/IndexOutOfBoundsException") (by decide +kernel)⟩) (by decide) (by decide) (hts (.classLink RL 15 "java/lang/IllegalStateException") (by decide +kernel)) (va_Nw.use rfl (hE.1 (.castable "java/lang/IllegalStateException" "java/lang/IllegalStateException") (by decide +kernel))) hce hcv hcl ?_
      refine lv_astore_n (lv' := [(3, .ref q9), (0, .ref h), (1, .int x), (2, .ref oL)]) hx hb dL_awaitNote_22 rfl hl (by decide) rfl (fun ls hl => ?_)
      refine lv_iconst (v := 2) hx hb dL_awaitNote_23 (by decide) ?_
      exact W.iret (v := 2) hx hb hr (fun τ hτ hW => ⟨⟨_, fL, rfl, ⟨hcd.symm, fun h9 => absurd h9 hcd9⟩, yPt hPf hτ⟩, hS9.F hτ⟩) hS9.2.2 dL_awaitNote_24
  · obtain ⟨hp8, hp9⟩ := hp9
    have hB9 : va_P G vwCl (W2 k h a c ((o_awaitNote x C n0).2.2) n0 M ds n1 d) H1 := by rw [← ht9]; exact hB9
    have hP9 : va_P G vwCl (WL k oL fL h a c ((o_awaitNote x C n0).2.2) n0 M ds n1 d) H1 := JL hP hD hk9 hB9
    have hD9 : va_D A (WL k oL fL h a c ((o_awaitNote x C n0).2.2) n0 M ds n1 d) := yD hD rfl
    subst hp9
    refine lv_if_eq (tgt := 14) hx hb dL_awaitNote_7 (by decide) (fun c9 => ?_) (fun c9 => ?_)
    · refine lv_lconst (v := 0) hx hb dL_awaitNote_14 rfl ?_
      refine va_last hx hb hK hP9 hD9 hS9 0 3 rfl rfl (x := 0) (vp_in_nI (n := 0) (N := 1) (by decide) (by decide)) dL_awaitNote_15 (fun H2 locs2 hP8 hD8 hS8 => ?_)
      have hPf : va_P G vwCl (WL k oL (vp_updL fL 0 0) h a c ((o_awaitNote x C n0).2.2) n0 M ds n1 d) H2 := hP8
      refine lv_goto (tgt := 25) hx hb dL_awaitNote_16 (by decide) ?_
      refine lv_iconst (v := 0) hx hb dL_awaitNote_25 (by decide) ?_
      exact W.iret (v := 0) hx hb hr (fun τ hτ hW => ⟨⟨_, (vp_updL fL 0 0), rfl, ⟨hp8.symm, fun _ => by rw [if_pos c9]; rfl⟩, yPt hPf hτ⟩, hS8.F hτ⟩) hS8.2.2 dL_awaitNote_26
    · refine lv_lconst (v := 1) hx hb dL_awaitNote_10 rfl ?_
      refine lv_goto (tgt := 15) hx hb dL_awaitNote_11 (by decide) ?_
      refine va_last hx hb hK hP9 hD9 hS9 0 3 rfl rfl (x := 1) (vp_in_nI (n := 0) (N := 1) (by decide) (by decide)) dL_awaitNote_15 (fun H2 locs2 hP8 hD8 hS8 => ?_)
      have hPf : va_P G vwCl (WL k oL (vp_updL fL 0 1) h a c ((o_awaitNote x C n0).2.2) n0 M ds n1 d) H2 := hP8
      refine lv_goto (tgt := 25) hx hb dL_awaitNote_16 (by decide) ?_
      refine lv_iconst (v := 0) hx hb dL_awaitNote_25 (by decide) ?_
      exact W.iret (v := 0) hx hb hr (fun τ hτ hW => ⟨⟨_, (vp_updL fL 0 1), rfl, ⟨hp8.symm, fun _ => by rw [if_neg c9]; rfl⟩, yPt hPf hτ⟩, hS8.F hτ⟩) hS8.2.2 dL_awaitNote_26

set_option maxHeartbeats 4000000 in
set_option maxRecDepth 100000 in
theorem c_L_letters (l : Launch) (hl9 : l.stackTraces = false) (G : va_G) (k : Nat → ClassId) (h : Nat) (a : Nat → Nat) (c : Nat → Nat) (C : Nat → Nat → Int32) (n0 : Nat) (M : Nat → Nat → Int32) (ds : Nat) (n1 : Nat) (d : Nat) (oL : Nat) (fL : Nat → Int64) (sz : Nat) (x : Int32) (hND : va_D (fun _ => True) (WL k oL fL h a c C n0 M ds n1 d)) (hn : n0 ≤ 8) : Met l yL_letters wsL_letters ({ frames := 8, cells := 1, slots := 6, locals := 132 }) (va_Pc [.ref h, .int x, .ref oL] (yL G (yT k) (WL k oL fL h a c C n0 M ds n1 d) sz)) (va_Qi (fun (r : Int32) (f : Nat → Int64) => r = (o_letters x C n0).1 ∧ ((o_letters x C n0).1 = 0 → f 0 = ((o_letters x C n0).2).toInt64)) (fun f τ => va_P G vwCl (WL k oL f h a c C n0 M ds n1 d) τ.heap) (va_A (WL k oL fL h a c C n0 M ds n1 d) sz)) 1 6 (va_A (WL k oL fL h a c C n0 M ds n1 d) sz) := by
  refine va_MetW (cc := cL_letters) (maxL := 4) (ret := (some .int)) (hh := [(0, 9, 12, 21)]) (by decide) rfl ?_
  intro p e s m args below meth c_ s₁ B hml hv
  obtain ⟨rfl, hsz, hP, hK, hE, hNC⟩ := hv
  have hE : yEV0 s s.heap := hE
  have hx := B.exec
  have hb := B.bytes
  have hr := B.returns
  have hts := atoms_spec (ws := wsL_letters) B.pre
  have hown : s.vm.findClass RL = some m.cls := findClass_of_methodNamed B.named
  have hlocks := B.notSynchronized
  have htab : c_.exceptionTable.toList = tableOf [(0, 9, 12, 21)] := vx_table (x := yL_letters) B (hts (.codeWith yL_letters cL_letters 4 (some .int) [(0, 9, 12, 21)]) List.mem_cons_self)
  subst hsz
  have hD := hND.self (sz := s.heap.size)
  have hA9 : ∀ q, va_A (W2 k h a c C n0 M ds n1 d) s.heap.size q → va_A (WL k oL fL h a c C n0 M ds n1 d) s.heap.size q := fun q h => yA_tl h
  generalize hAe : va_A (WL k oL fL h a c C n0 M ds n1 d) s.heap.size = A at hD hA9 ⊢
  have hA : ∀ q : Nat, s.heap.size ≤ q → A q := fun q h => by rw [← hAe]; exact Or.inr h
  have hS : va_S A s.heap s.heap [] := va_S.rf
  have hP2 : va_P G vwCl (W2 k h a c C n0 M ds n1 d) s.heap := yP_tl hP
  have hND2 : va_D (fun _ => True) (W2 k h a c C n0 M ds n1 d) := yD_tl hND
  have hl := lv_entry ([.ref h, .int x, .ref oL]) (n := 4) (Nat.le_of_ble_eq_true rfl)
  rw [lg_entry_eq]
  generalize (lg_sl ([.ref h, .int x, .ref oL]) ++ List.replicate (4 - (lg_sl ([.ref h, .int x, .ref oL])).length) Slot.unset).toArray = ls at hl ⊢
  have hl : lv_has ls 4 [(0, .ref h), (1, .int x), (2, .ref oL)] := hl
  refine lv_aload_n hx hb dL_letters_0 rfl (lv_at hl 2 rfl) ?_
  refine lv_iconst (v := 0) hx hb dL_letters_1 (by decide) ?_
  refine lv_aload_n hx hb dL_letters_2 rfl (lv_at hl 0 rfl) ?_
  refine lv_iload_n hx hb dL_letters_3 rfl (lv_at hl 1 rfl) ?_
  refine y_hread (mk := Value.int) yQi (vx_runV (As := [.int x]) (rest := [.int 0, .ref oL]) ⟨hx, hb, hml, hown, hts⟩ (c_X2_letters l hl9 G k h a c C n0 M ds n1 d  x  hn) (cwV 1 hts gL_letters_X2_letters rfl rfl rfl (by decide +kernel) ⟨Nat.le_of_ble_eq_true rfl, Nat.le_of_ble_eq_true rfl⟩) ⟨yE_blind, va_recv hK hP2 (ci := 4) (q0 := 0) rfl rfl, fun U hU hW => ⟨rfl, by rw [hU]; exact hP2, va_K.moved hW.alike hK, yEV_at hE hU hW⟩⟩ rfl rfl hl.1 rfl (lv_room (Nat.le_of_ble_eq_true rfl)) dL_letters_4 ⟨Nat.le_of_ble_eq_true rfl, Nat.le_of_ble_eq_true rfl⟩) hS ?_ (fun r hp9 => ?_)
  · intro E ce q9 H1 locs1 hpx hk9 hS9 hce hcv hcl
    rcases hpx with ⟨rfl, hcd⟩
    · have hcd9 : ¬ (o_letters x C n0).1 = 0 := by rw [hcd]; decide
      have hPf : va_P G vwCl (WL k oL fL h a c C n0 M ds n1 d) H1 := yKeep hP hk9
      refine vx_catch (own := RL) (name := "java/lang/IndexOutOfBoundsException") (E := "java/lang/IndexOutOfBoundsException") (ce := ce) hown [] (⟨0, 9, 12, 21⟩ : ExceptionTableEntry) [] (by rw [htab]; rfl) (fun z hz => nomatch hz) (by decide) (by decide) (hts (.classLink RL 21 "java/lang/IndexOutOfBoundsException") (by decide +kernel)) (va_Nw.use rfl (hE.1 (.castable "java/lang/IndexOutOfBoundsException" "java/lang/IndexOutOfBoundsException") (by decide +kernel))) hce hcv hcl ?_
      refine lv_astore_n (lv' := [(3, .ref q9), (0, .ref h), (1, .int x), (2, .ref oL)]) hx hb dL_letters_12 rfl hl (by decide) rfl (fun ls hl => ?_)
      refine lv_iconst (v := 1) hx hb dL_letters_13 (by decide) ?_
      exact W.iret (v := 1) hx hb hr (fun τ hτ hW => ⟨⟨_, fL, rfl, ⟨hcd.symm, fun h9 => absurd h9 hcd9⟩, yPt hPf hτ⟩, hS9.F hτ⟩) hS9.2.2 dL_letters_14
  · obtain ⟨hp8, hp9⟩ := hp9
    have hP9 := hP
    have hD9 := hD
    have hS9 := hS
    subst hp9
    refine lv_i2l (v := ((o_letters x C n0).2).toInt64) hx hb dL_letters_7 rfl ?_
    refine va_last hx hb hK hP9 hD9 hS9 0 3 rfl rfl (x := (((o_letters x C n0).2).toInt64)) (vp_in_nI (n := 0) (N := 1) (by decide) (by decide)) dL_letters_8 (fun H2 locs2 hP8 hD8 hS8 => ?_)
    have hPf : va_P G vwCl (WL k oL (vp_updL fL 0 (((o_letters x C n0).2).toInt64)) h a c C n0 M ds n1 d) H2 := hP8
    refine lv_goto (tgt := 15) hx hb dL_letters_9 (by decide) ?_
    refine lv_iconst (v := 0) hx hb dL_letters_15 (by decide) ?_
    exact W.iret (v := 0) hx hb hr (fun τ hτ hW => ⟨⟨_, (vp_updL fL 0 (((o_letters x C n0).2).toInt64)), rfl, ⟨hp8.symm, fun _ => by rfl⟩, yPt hPf hτ⟩, hS8.F hτ⟩) hS8.2.2 dL_letters_16

set_option maxHeartbeats 4000000 in
set_option maxRecDepth 100000 in
theorem c_L_lettersByMessages (l : Launch) (hl9 : l.stackTraces = false) (G : va_G) (k : Nat → ClassId) (h : Nat) (a : Nat → Nat) (c : Nat → Nat) (C : Nat → Nat → Int32) (n0 : Nat) (M : Nat → Nat → Int32) (ds : Nat) (n1 : Nat) (d : Nat) (oL : Nat) (fL : Nat → Int64) (sz : Nat) (x : Int32) (hND : va_D (fun _ => True) (WL k oL fL h a c C n0 M ds n1 d)) (hn : n0 ≤ 8) (hn1 : n1 ≤ 80) (hds : ds ≤ 80) : Met l yL_lettersByMessages wsL_lettersByMessages ({ frames := 8, cells := 1, slots := 6, locals := 132 }) (va_Pc [.ref h, .int x, .ref oL] (yL G (yT k) (WL k oL fL h a c C n0 M ds n1 d) sz)) (va_Qi (fun (r : Int32) (f : Nat → Int64) => r = (o_lbm x C n0 M ds n1).1 ∧ ((o_lbm x C n0 M ds n1).1 = 0 → f 0 = ((o_lbm x C n0 M ds n1).2).toInt64)) (fun f τ => va_P G vwCl (WL k oL f h a c C n0 M ds n1 d) τ.heap) (va_A (WL k oL fL h a c C n0 M ds n1 d) sz)) 1 6 (va_A (WL k oL fL h a c C n0 M ds n1 d) sz) := by
  refine va_MetW (cc := cL_lettersByMessages) (maxL := 4) (ret := (some .int)) (hh := [(0, 9, 12, 21)]) (by decide) rfl ?_
  intro p e s m args below meth c_ s₁ B hml hv
  obtain ⟨rfl, hsz, hP, hK, hE, hNC⟩ := hv
  have hE : yEV0 s s.heap := hE
  have hx := B.exec
  have hb := B.bytes
  have hr := B.returns
  have hts := atoms_spec (ws := wsL_lettersByMessages) B.pre
  have hown : s.vm.findClass RL = some m.cls := findClass_of_methodNamed B.named
  have hlocks := B.notSynchronized
  have htab : c_.exceptionTable.toList = tableOf [(0, 9, 12, 21)] := vx_table (x := yL_lettersByMessages) B (hts (.codeWith yL_lettersByMessages cL_lettersByMessages 4 (some .int) [(0, 9, 12, 21)]) List.mem_cons_self)
  subst hsz
  have hD := hND.self (sz := s.heap.size)
  have hA9 : ∀ q, va_A (W2 k h a c C n0 M ds n1 d) s.heap.size q → va_A (WL k oL fL h a c C n0 M ds n1 d) s.heap.size q := fun q h => yA_tl h
  generalize hAe : va_A (WL k oL fL h a c C n0 M ds n1 d) s.heap.size = A at hD hA9 ⊢
  have hA : ∀ q : Nat, s.heap.size ≤ q → A q := fun q h => by rw [← hAe]; exact Or.inr h
  have hS : va_S A s.heap s.heap [] := va_S.rf
  have hP2 : va_P G vwCl (W2 k h a c C n0 M ds n1 d) s.heap := yP_tl hP
  have hND2 : va_D (fun _ => True) (W2 k h a c C n0 M ds n1 d) := yD_tl hND
  have hl := lv_entry ([.ref h, .int x, .ref oL]) (n := 4) (Nat.le_of_ble_eq_true rfl)
  rw [lg_entry_eq]
  generalize (lg_sl ([.ref h, .int x, .ref oL]) ++ List.replicate (4 - (lg_sl ([.ref h, .int x, .ref oL])).length) Slot.unset).toArray = ls at hl ⊢
  have hl : lv_has ls 4 [(0, .ref h), (1, .int x), (2, .ref oL)] := hl
  refine lv_aload_n hx hb dL_lettersByMessages_0 rfl (lv_at hl 2 rfl) ?_
  refine lv_iconst (v := 0) hx hb dL_lettersByMessages_1 (by decide) ?_
  refine lv_aload_n hx hb dL_lettersByMessages_2 rfl (lv_at hl 0 rfl) ?_
  refine lv_iload_n hx hb dL_lettersByMessages_3 rfl (lv_at hl 1 rfl) ?_
  refine y_hread (mk := Value.int) yQi (vx_runV (As := [.int x]) (rest := [.int 0, .ref oL]) ⟨hx, hb, hml, hown, hts⟩ (c_X2_lettersByMessages l hl9 G k h a c C n0 M ds n1 d  x  hn hn1 hds) (cwV 1 hts gL_lettersByMessages_X2_lettersByMessages rfl rfl rfl (by decide +kernel) ⟨Nat.le_of_ble_eq_true rfl, Nat.le_of_ble_eq_true rfl⟩) ⟨yE_blind, va_recv hK hP2 (ci := 4) (q0 := 0) rfl rfl, fun U hU hW => ⟨rfl, by rw [hU]; exact hP2, va_K.moved hW.alike hK, yEV_at hE hU hW⟩⟩ rfl rfl hl.1 rfl (lv_room (Nat.le_of_ble_eq_true rfl)) dL_lettersByMessages_4 ⟨Nat.le_of_ble_eq_true rfl, Nat.le_of_ble_eq_true rfl⟩) hS ?_ (fun r hp9 => ?_)
  · intro E ce q9 H1 locs1 hpx hk9 hS9 hce hcv hcl
    rcases hpx with ⟨rfl, hcd⟩
    · have hcd9 : ¬ (o_lbm x C n0 M ds n1).1 = 0 := by rw [hcd]; decide
      have hPf : va_P G vwCl (WL k oL fL h a c C n0 M ds n1 d) H1 := yKeep hP hk9
      refine vx_catch (own := RL) (name := "java/lang/IndexOutOfBoundsException") (E := "java/lang/IndexOutOfBoundsException") (ce := ce) hown [] (⟨0, 9, 12, 21⟩ : ExceptionTableEntry) [] (by rw [htab]; rfl) (fun z hz => nomatch hz) (by decide) (by decide) (hts (.classLink RL 21 "java/lang/IndexOutOfBoundsException") (by decide +kernel)) (va_Nw.use rfl (hE.1 (.castable "java/lang/IndexOutOfBoundsException" "java/lang/IndexOutOfBoundsException") (by decide +kernel))) hce hcv hcl ?_
      refine lv_astore_n (lv' := [(3, .ref q9), (0, .ref h), (1, .int x), (2, .ref oL)]) hx hb dL_lettersByMessages_12 rfl hl (by decide) rfl (fun ls hl => ?_)
      refine lv_iconst (v := 1) hx hb dL_lettersByMessages_13 (by decide) ?_
      exact W.iret (v := 1) hx hb hr (fun τ hτ hW => ⟨⟨_, fL, rfl, ⟨hcd.symm, fun h9 => absurd h9 hcd9⟩, yPt hPf hτ⟩, hS9.F hτ⟩) hS9.2.2 dL_lettersByMessages_14
  · obtain ⟨hp8, hp9⟩ := hp9
    have hP9 := hP
    have hD9 := hD
    have hS9 := hS
    subst hp9
    refine lv_i2l (v := ((o_lbm x C n0 M ds n1).2).toInt64) hx hb dL_lettersByMessages_7 rfl ?_
    refine va_last hx hb hK hP9 hD9 hS9 0 3 rfl rfl (x := (((o_lbm x C n0 M ds n1).2).toInt64)) (vp_in_nI (n := 0) (N := 1) (by decide) (by decide)) dL_lettersByMessages_8 (fun H2 locs2 hP8 hD8 hS8 => ?_)
    have hPf : va_P G vwCl (WL k oL (vp_updL fL 0 (((o_lbm x C n0 M ds n1).2).toInt64)) h a c C n0 M ds n1 d) H2 := hP8
    refine lv_goto (tgt := 15) hx hb dL_lettersByMessages_9 (by decide) ?_
    refine lv_iconst (v := 0) hx hb dL_lettersByMessages_15 (by decide) ?_
    exact W.iret (v := 0) hx hb hr (fun τ hτ hW => ⟨⟨_, (vp_updL fL 0 (((o_lbm x C n0 M ds n1).2).toInt64)), rfl, ⟨hp8.symm, fun _ => by rfl⟩, yPt hPf hτ⟩, hS8.F hτ⟩) hS8.2.2 dL_lettersByMessages_16

set_option maxHeartbeats 4000000 in
set_option maxRecDepth 100000 in
theorem c_L_nextReminder (l : Launch) (hl9 : l.stackTraces = false) (G : va_G) (k : Nat → ClassId) (h : Nat) (a : Nat → Nat) (c : Nat → Nat) (C : Nat → Nat → Int32) (n0 : Nat) (M : Nat → Nat → Int32) (ds : Nat) (n1 : Nat) (d : Nat) (oL : Nat) (fL : Nat → Int64) (sz : Nat) (x : Int32) (hND : va_D (fun _ => True) (WL k oL fL h a c C n0 M ds n1 d)) (hn : n0 ≤ 8) (hn1 : n1 ≤ 80) : Met l yL_nextReminder wsL_nextReminder ({ frames := 8, cells := 2, slots := 12, locals := 133 }) (va_Pc [.ref h, .int x, .ref oL] (yL G (yT k) (WL k oL fL h a c C n0 M ds n1 d) sz)) (va_Qi (fun (r : Int32) (f : Nat → Int64) => r = (o_nextReminder x C n0 M n1 d).1 ∧ ((o_nextReminder x C n0 M n1 d).1 = 0 → f 0 = ((o_nextReminder x C n0 M n1 d).2).toInt64)) (fun f τ => va_P G vwCl (WL k oL f h a c C n0 M ds n1 d) τ.heap) (va_A (WL k oL fL h a c C n0 M ds n1 d) sz)) 2 12 (va_A (WL k oL fL h a c C n0 M ds n1 d) sz) := by
  refine va_MetW (cc := cL_nextReminder) (maxL := 4) (ret := (some .int)) (hh := [(0, 9, 12, 21), (0, 9, 15, 39)]) (by decide) rfl ?_
  intro p e s m args below meth c_ s₁ B hml hv
  obtain ⟨rfl, hsz, hP, hK, hE, hNC⟩ := hv
  have hE : yEV0 s s.heap := hE
  have hx := B.exec
  have hb := B.bytes
  have hr := B.returns
  have hts := atoms_spec (ws := wsL_nextReminder) B.pre
  have hown : s.vm.findClass RL = some m.cls := findClass_of_methodNamed B.named
  have hlocks := B.notSynchronized
  have htab : c_.exceptionTable.toList = tableOf [(0, 9, 12, 21), (0, 9, 15, 39)] := vx_table (x := yL_nextReminder) B (hts (.codeWith yL_nextReminder cL_nextReminder 4 (some .int) [(0, 9, 12, 21), (0, 9, 15, 39)]) List.mem_cons_self)
  subst hsz
  have hD := hND.self (sz := s.heap.size)
  have hA9 : ∀ q, va_A (W2 k h a c C n0 M ds n1 d) s.heap.size q → va_A (WL k oL fL h a c C n0 M ds n1 d) s.heap.size q := fun q h => yA_tl h
  generalize hAe : va_A (WL k oL fL h a c C n0 M ds n1 d) s.heap.size = A at hD hA9 ⊢
  have hA : ∀ q : Nat, s.heap.size ≤ q → A q := fun q h => by rw [← hAe]; exact Or.inr h
  have hS : va_S A s.heap s.heap [] := va_S.rf
  have hP2 : va_P G vwCl (W2 k h a c C n0 M ds n1 d) s.heap := yP_tl hP
  have hND2 : va_D (fun _ => True) (W2 k h a c C n0 M ds n1 d) := yD_tl hND
  have hl := lv_entry ([.ref h, .int x, .ref oL]) (n := 4) (Nat.le_of_ble_eq_true rfl)
  rw [lg_entry_eq]
  generalize (lg_sl ([.ref h, .int x, .ref oL]) ++ List.replicate (4 - (lg_sl ([.ref h, .int x, .ref oL])).length) Slot.unset).toArray = ls at hl ⊢
  have hl : lv_has ls 4 [(0, .ref h), (1, .int x), (2, .ref oL)] := hl
  refine lv_aload_n hx hb dL_nextReminder_0 rfl (lv_at hl 2 rfl) ?_
  refine lv_iconst (v := 0) hx hb dL_nextReminder_1 (by decide) ?_
  refine lv_aload_n hx hb dL_nextReminder_2 rfl (lv_at hl 0 rfl) ?_
  refine lv_iload_n hx hb dL_nextReminder_3 rfl (lv_at hl 1 rfl) ?_
  refine y_hread (mk := Value.int) yQi (vx_runV (As := [.int x]) (rest := [.int 0, .ref oL]) ⟨hx, hb, hml, hown, hts⟩ (c_X2_nextReminder l hl9 G k h a c C n0 M ds n1 d  x  hn hn1) (cwV 1 hts gL_nextReminder_X2_nextReminder rfl rfl rfl (by decide +kernel) ⟨Nat.le_of_ble_eq_true rfl, Nat.le_of_ble_eq_true rfl⟩) ⟨yE_blind, va_recv hK hP2 (ci := 4) (q0 := 0) rfl rfl, fun U hU hW => ⟨rfl, by rw [hU]; exact hP2, va_K.moved hW.alike hK, yEV_at hE hU hW⟩⟩ rfl rfl hl.1 rfl (lv_room (Nat.le_of_ble_eq_true rfl)) dL_nextReminder_4 ⟨Nat.le_of_ble_eq_true rfl, Nat.le_of_ble_eq_true rfl⟩) hS ?_ (fun r hp9 => ?_)
  · intro E ce q9 H1 locs1 hpx hk9 hS9 hce hcv hcl
    rcases hpx with ⟨rfl, hcd⟩ | ⟨rfl, hcd⟩
    · have hcd9 : ¬ (o_nextReminder x C n0 M n1 d).1 = 0 := by rw [hcd]; decide
      have hPf : va_P G vwCl (WL k oL fL h a c C n0 M ds n1 d) H1 := yKeep hP hk9
      refine vx_catch (own := RL) (name := "java/lang/IndexOutOfBoundsException") (E := "java/lang/IndexOutOfBoundsException") (ce := ce) hown [] (⟨0, 9, 12, 21⟩ : ExceptionTableEntry) [(⟨0, 9, 15, 39⟩ : ExceptionTableEntry)] (by rw [htab]; rfl) (fun z hz => nomatch hz) (by decide) (by decide) (hts (.classLink RL 21 "java/lang/IndexOutOfBoundsException") (by decide +kernel)) (va_Nw.use rfl (hE.1 (.castable "java/lang/IndexOutOfBoundsException" "java/lang/IndexOutOfBoundsException") (by decide +kernel))) hce hcv hcl ?_
      refine lv_astore_n (lv' := [(3, .ref q9), (0, .ref h), (1, .int x), (2, .ref oL)]) hx hb dL_nextReminder_12 rfl hl (by decide) rfl (fun ls hl => ?_)
      refine lv_iconst (v := 1) hx hb dL_nextReminder_13 (by decide) ?_
      exact W.iret (v := 1) hx hb hr (fun τ hτ hW => ⟨⟨_, fL, rfl, ⟨hcd.symm, fun h9 => absurd h9 hcd9⟩, yPt hPf hτ⟩, hS9.F hτ⟩) hS9.2.2 dL_nextReminder_14
    · have hcd9 : ¬ (o_nextReminder x C n0 M n1 d).1 = 0 := by rw [hcd]; decide
      have hPf : va_P G vwCl (WL k oL fL h a c C n0 M ds n1 d) H1 := yKeep hP hk9
      refine vx_catch (own := RL) (name := "java/util/NoSuchElementException") (E := "java/util/NoSuchElementException") (ce := ce) hown [(⟨0, 9, 12, 21⟩ : ExceptionTableEntry)] (⟨0, 9, 15, 39⟩ : ExceptionTableEntry) [] (by rw [htab]; rfl) (fun z hz => by rcases List.mem_singleton.mp hz with rfl; exact Or.inr ⟨by decide, "java/lang/IndexOutOfBoundsException", hts (.classLink RL 21 "java/lang/IndexOutOfBoundsException") (by decide +kernel), hNC ("java/util/NoSuchElementException", "java/lang/IndexOutOfBoundsException") (by decide +kernel)⟩) (by decide) (by decide) (hts (.classLink RL 39 "java/util/NoSuchElementException") (by decide +kernel)) (va_Nw.use rfl (hE.1 (.castable "java/util/NoSuchElementException" "java/util/NoSuchElementException") (by decide +kernel))) hce hcv hcl ?_
      refine lv_astore_n (lv' := [(3, .ref q9), (0, .ref h), (1, .int x), (2, .ref oL)]) hx hb dL_nextReminder_15 rfl hl (by decide) rfl (fun ls hl => ?_)
      refine lv_iconst (v := 2) hx hb dL_nextReminder_16 (by decide) ?_
      exact W.iret (v := 2) hx hb hr (fun τ hτ hW => ⟨⟨_, fL, rfl, ⟨hcd.symm, fun h9 => absurd h9 hcd9⟩, yPt hPf hτ⟩, hS9.F hτ⟩) hS9.2.2 dL_nextReminder_17
  · obtain ⟨hp8, hp9⟩ := hp9
    have hP9 := hP
    have hD9 := hD
    have hS9 := hS
    subst hp9
    refine lv_i2l (v := ((o_nextReminder x C n0 M n1 d).2).toInt64) hx hb dL_nextReminder_7 rfl ?_
    refine va_last hx hb hK hP9 hD9 hS9 0 3 rfl rfl (x := (((o_nextReminder x C n0 M n1 d).2).toInt64)) (vp_in_nI (n := 0) (N := 1) (by decide) (by decide)) dL_nextReminder_8 (fun H2 locs2 hP8 hD8 hS8 => ?_)
    have hPf : va_P G vwCl (WL k oL (vp_updL fL 0 (((o_nextReminder x C n0 M n1 d).2).toInt64)) h a c C n0 M ds n1 d) H2 := hP8
    refine lv_goto (tgt := 18) hx hb dL_nextReminder_9 (by decide) ?_
    refine lv_iconst (v := 0) hx hb dL_nextReminder_18 (by decide) ?_
    exact W.iret (v := 0) hx hb hr (fun τ hτ hW => ⟨⟨_, (vp_updL fL 0 (((o_nextReminder x C n0 M n1 d).2).toInt64)), rfl, ⟨hp8.symm, fun _ => by rfl⟩, yPt hPf hτ⟩, hS8.F hτ⟩) hS8.2.2 dL_nextReminder_19

set_option maxHeartbeats 4000000 in
set_option maxRecDepth 100000 in
theorem c_L_post (l : Launch) (hl9 : l.stackTraces = false) (G : va_G) (k : Nat → ClassId) (h : Nat) (a : Nat → Nat) (c : Nat → Nat) (C : Nat → Nat → Int32) (n0 : Nat) (M : Nat → Nat → Int32) (ds : Nat) (n1 : Nat) (d : Nat) (oL : Nat) (fL : Nat → Int64) (sz : Nat) (q key kd x v dl : Int32) (hND : va_D (fun _ => True) (WL k oL fL h a c C n0 M ds n1 d)) (hn : n0 ≤ 8) (hn1 : n1 ≤ 80) : Met l yL_post wsL_post ({ frames := 8, cells := 2, slots := 12, locals := 138 }) (va_Pc [.ref h, .int q, .int key, .int kd, .int x, .int v, .int dl, .ref oL] (yL G (yT k) (WL k oL fL h a c C n0 M ds n1 d) sz)) (va_Qi (fun (r : Int32) (f : Nat → Int64) => r = (o_post q key kd x v dl n0 M n1 d).1 ∧ ((o_post q key kd x v dl n0 M n1 d).1 = 0 → f 0 = ((o_post q key kd x v dl n0 M n1 d).2.1).toInt64)) (fun f τ => va_P G vwCl (WL k oL f h a c C n0 ((o_post q key kd x v dl n0 M n1 d).2.2.1) ds ((o_post q key kd x v dl n0 M n1 d).2.2.2) d) τ.heap) (va_A (WL k oL fL h a c C n0 M ds n1 d) sz)) 2 12 (va_A (WL k oL fL h a c C n0 M ds n1 d) sz) := by
  refine va_MetW (cc := cL_post) (maxL := 9) (ret := (some .int)) (hh := [(0, 18, 21, 13), (0, 18, 25, 15)]) (by decide) rfl ?_
  intro p e s m args below meth c_ s₁ B hml hv
  obtain ⟨rfl, hsz, hP, hK, hE, hNC⟩ := hv
  have hE : yEV0 s s.heap := hE
  have hx := B.exec
  have hb := B.bytes
  have hr := B.returns
  have hts := atoms_spec (ws := wsL_post) B.pre
  have hown : s.vm.findClass RL = some m.cls := findClass_of_methodNamed B.named
  have hlocks := B.notSynchronized
  have htab : c_.exceptionTable.toList = tableOf [(0, 18, 21, 13), (0, 18, 25, 15)] := vx_table (x := yL_post) B (hts (.codeWith yL_post cL_post 9 (some .int) [(0, 18, 21, 13), (0, 18, 25, 15)]) List.mem_cons_self)
  subst hsz
  have hD := hND.self (sz := s.heap.size)
  have hA9 : ∀ q, va_A (W2 k h a c C n0 M ds n1 d) s.heap.size q → va_A (WL k oL fL h a c C n0 M ds n1 d) s.heap.size q := fun q h => yA_tl h
  generalize hAe : va_A (WL k oL fL h a c C n0 M ds n1 d) s.heap.size = A at hD hA9 ⊢
  have hA : ∀ q : Nat, s.heap.size ≤ q → A q := fun q h => by rw [← hAe]; exact Or.inr h
  have hS : va_S A s.heap s.heap [] := va_S.rf
  have hP2 : va_P G vwCl (W2 k h a c C n0 M ds n1 d) s.heap := yP_tl hP
  have hND2 : va_D (fun _ => True) (W2 k h a c C n0 M ds n1 d) := yD_tl hND
  have hl := lv_entry ([.ref h, .int q, .int key, .int kd, .int x, .int v, .int dl, .ref oL]) (n := 9) (Nat.le_of_ble_eq_true rfl)
  rw [lg_entry_eq]
  generalize (lg_sl ([.ref h, .int q, .int key, .int kd, .int x, .int v, .int dl, .ref oL]) ++ List.replicate (9 - (lg_sl ([.ref h, .int q, .int key, .int kd, .int x, .int v, .int dl, .ref oL])).length) Slot.unset).toArray = ls at hl ⊢
  have hl : lv_has ls 9 [(0, .ref h), (1, .int q), (2, .int key), (3, .int kd), (4, .int x), (5, .int v), (6, .int dl), (7, .ref oL)] := hl
  refine lv_aload hx hb dL_post_0 (lv_at hl 7 rfl) ?_
  refine lv_iconst (v := 0) hx hb dL_post_2 (by decide) ?_
  refine lv_aload_n hx hb dL_post_3 rfl (lv_at hl 0 rfl) ?_
  refine lv_iload_n hx hb dL_post_4 rfl (lv_at hl 1 rfl) ?_
  refine lv_iload_n hx hb dL_post_5 rfl (lv_at hl 2 rfl) ?_
  refine lv_iload_n hx hb dL_post_6 rfl (lv_at hl 3 rfl) ?_
  refine lv_iload hx hb dL_post_7 (lv_at hl 4 rfl) ?_
  refine lv_iload hx hb dL_post_9 (lv_at hl 5 rfl) ?_
  refine lv_iload hx hb dL_post_11 (lv_at hl 6 rfl) ?_
  refine y_hcall (vx_runV (As := [.int q, .int key, .int kd, .int x, .int v, .int dl]) (rest := [.int 0, .ref oL]) ⟨hx, hb, hml, hown, hts⟩ (c_X2_post l hl9 G k h a c C n0 M ds n1 d s.heap.size q key kd x v dl hND2 hn hn1) (cwV 6 hts gL_post_X2_post rfl rfl rfl (by decide +kernel) ⟨Nat.le_of_ble_eq_true rfl, Nat.le_of_ble_eq_true rfl⟩) ⟨yEs_blind, va_recv hK hP2 (ci := 4) (q0 := 0) rfl rfl, fun U hU hW => ⟨rfl, by rw [hU], by rw [hU]; exact hP2, va_K.moved hW.alike hK, yEV_at hE hU hW⟩⟩ rfl rfl hl.1 rfl (lv_room (Nat.le_of_ble_eq_true rfl)) dL_post_13 ⟨Nat.le_of_ble_eq_true rfl, Nat.le_of_ble_eq_true rfl⟩) hS (fun q _ h => hA9 q h) hA9 ?_ (fun r u9 t9 H1 locs1 ht9 hp9 hB9 hz9 hk9 hS9 => ?_)
  · intro E ce q9 H1 locs1 hpx hk9 hS9 hce hcv hcl
    rcases hpx with ⟨rfl, hcd⟩ | ⟨rfl, hcd⟩
    · have hcd9 : ¬ (o_post q key kd x v dl n0 M n1 d).1 = 0 := by rw [hcd]; decide
      have hold := o_post_k hcd9
      have hPf : va_P G vwCl (WL k oL fL h a c C n0 ((o_post q key kd x v dl n0 M n1 d).2.2.1) ds ((o_post q key kd x v dl n0 M n1 d).2.2.2) d) H1 := by
        have h9 := yKeep hP hk9
        first | (rw [hold]; exact h9) | (simp only [hold]; exact h9)
      refine vx_catch (own := RL) (name := "java/lang/IllegalArgumentException") (E := "java/lang/IllegalArgumentException") (ce := ce) hown [] (⟨0, 18, 21, 13⟩ : ExceptionTableEntry) [(⟨0, 18, 25, 15⟩ : ExceptionTableEntry)] (by rw [htab]; rfl) (fun z hz => nomatch hz) (by decide) (by decide) (hts (.classLink RL 13 "java/lang/IllegalArgumentException") (by decide +kernel)) (va_Nw.use rfl (hE.1 (.castable "java/lang/IllegalArgumentException" "java/lang/IllegalArgumentException") (by decide +kernel))) hce hcv hcl ?_
      refine lv_astore (lv' := [(8, .ref q9), (0, .ref h), (1, .int q), (2, .int key), (3, .int kd), (4, .int x), (5, .int v), (6, .int dl), (7, .ref oL)]) hx hb dL_post_21 hl (by decide) rfl (fun ls hl => ?_)
      refine lv_iconst (v := 1) hx hb dL_post_23 (by decide) ?_
      exact W.iret (v := 1) hx hb hr (fun τ hτ hW => ⟨⟨_, fL, rfl, ⟨hcd.symm, fun h9 => absurd h9 hcd9⟩, yPt hPf hτ⟩, hS9.F hτ⟩) hS9.2.2 dL_post_24
    · have hcd9 : ¬ (o_post q key kd x v dl n0 M n1 d).1 = 0 := by rw [hcd]; decide
      have hold := o_post_k hcd9
      have hPf : va_P G vwCl (WL k oL fL h a c C n0 ((o_post q key kd x v dl n0 M n1 d).2.2.1) ds ((o_post q key kd x v dl n0 M n1 d).2.2.2) d) H1 := by
        have h9 := yKeep hP hk9
        first | (rw [hold]; exact h9) | (simp only [hold]; exact h9)
      refine vx_catch (own := RL) (name := "java/lang/IllegalStateException") (E := "java/lang/IllegalStateException") (ce := ce) hown [(⟨0, 18, 21, 13⟩ : ExceptionTableEntry)] (⟨0, 18, 25, 15⟩ : ExceptionTableEntry) [] (by rw [htab]; rfl) (fun z hz => by rcases List.mem_singleton.mp hz with rfl; exact Or.inr ⟨by decide, "java/lang/IllegalArgumentException", hts (.classLink RL 13 "java/lang/IllegalArgumentException") (by decide +kernel), hNC ("java/lang/IllegalStateException", "java/lang/IllegalArgumentException") (by decide +kernel)⟩) (by decide) (by decide) (hts (.classLink RL 15 "java/lang/IllegalStateException") (by decide +kernel)) (va_Nw.use rfl (hE.1 (.castable "java/lang/IllegalStateException" "java/lang/IllegalStateException") (by decide +kernel))) hce hcv hcl ?_
      refine lv_astore (lv' := [(8, .ref q9), (0, .ref h), (1, .int q), (2, .int key), (3, .int kd), (4, .int x), (5, .int v), (6, .int dl), (7, .ref oL)]) hx hb dL_post_25 hl (by decide) rfl (fun ls hl => ?_)
      refine lv_iconst (v := 2) hx hb dL_post_27 (by decide) ?_
      exact W.iret (v := 2) hx hb hr (fun τ hτ hW => ⟨⟨_, fL, rfl, ⟨hcd.symm, fun h9 => absurd h9 hcd9⟩, yPt hPf hτ⟩, hS9.F hτ⟩) hS9.2.2 dL_post_28
  · obtain ⟨hp8, hp9⟩ := hp9
    have hB9 : va_P G vwCl (W2 k h a c C n0 ((o_post q key kd x v dl n0 M n1 d).2.2.1) ds ((o_post q key kd x v dl n0 M n1 d).2.2.2) d) H1 := by rw [← ht9]; exact hB9
    have hP9 : va_P G vwCl (WL k oL fL h a c C n0 ((o_post q key kd x v dl n0 M n1 d).2.2.1) ds ((o_post q key kd x v dl n0 M n1 d).2.2.2) d) H1 := JL hP hD hk9 hB9
    have hD9 : va_D A (WL k oL fL h a c C n0 ((o_post q key kd x v dl n0 M n1 d).2.2.1) ds ((o_post q key kd x v dl n0 M n1 d).2.2.2) d) := yD hD rfl
    subst hp9
    refine lv_i2l (v := ((o_post q key kd x v dl n0 M n1 d).2.1).toInt64) hx hb dL_post_16 rfl ?_
    refine va_last hx hb hK hP9 hD9 hS9 0 3 rfl rfl (x := (((o_post q key kd x v dl n0 M n1 d).2.1).toInt64)) (vp_in_nI (n := 0) (N := 1) (by decide) (by decide)) dL_post_17 (fun H2 locs2 hP8 hD8 hS8 => ?_)
    have hPf : va_P G vwCl (WL k oL (vp_updL fL 0 (((o_post q key kd x v dl n0 M n1 d).2.1).toInt64)) h a c C n0 ((o_post q key kd x v dl n0 M n1 d).2.2.1) ds ((o_post q key kd x v dl n0 M n1 d).2.2.2) d) H2 := hP8
    refine lv_goto (tgt := 29) hx hb dL_post_18 (by decide) ?_
    refine lv_iconst (v := 0) hx hb dL_post_29 (by decide) ?_
    exact W.iret (v := 0) hx hb hr (fun τ hτ hW => ⟨⟨_, (vp_updL fL 0 (((o_post q key kd x v dl n0 M n1 d).2.1).toInt64)), rfl, ⟨hp8.symm, fun _ => by rfl⟩, yPt hPf hτ⟩, hS8.F hτ⟩) hS8.2.2 dL_post_30

set_option maxHeartbeats 4000000 in
set_option maxRecDepth 100000 in
theorem c_L_withKey (l : Launch) (hl9 : l.stackTraces = false) (G : va_G) (k : Nat → ClassId) (h : Nat) (a : Nat → Nat) (c : Nat → Nat) (C : Nat → Nat → Int32) (n0 : Nat) (M : Nat → Nat → Int32) (ds : Nat) (n1 : Nat) (d : Nat) (oL : Nat) (fL : Nat → Int64) (sz : Nat) (key : Int32) (hND : va_D (fun _ => True) (WL k oL fL h a c C n0 M ds n1 d)) (hn1 : n1 ≤ 80) : Met l yL_withKey wsL_withKey ({ frames := 7, cells := 1, slots := 6, locals := 112 }) (va_Pc [.ref h, .int key, .ref oL] (yL G (yT k) (WL k oL fL h a c C n0 M ds n1 d) sz)) (va_Qi (fun (r : Int32) (f : Nat → Int64) => r = (o_withKey key M n1).1 ∧ ((o_withKey key M n1).1 = 0 → f 0 = ((o_withKey key M n1).2).toInt64)) (fun f τ => va_P G vwCl (WL k oL f h a c C n0 M ds n1 d) τ.heap) (va_A (WL k oL fL h a c C n0 M ds n1 d) sz)) 1 6 (va_A (WL k oL fL h a c C n0 M ds n1 d) sz) := by
  refine va_MetW (cc := cL_withKey) (maxL := 4) (ret := (some .int)) (hh := [(0, 9, 12, 39)]) (by decide) rfl ?_
  intro p e s m args below meth c_ s₁ B hml hv
  obtain ⟨rfl, hsz, hP, hK, hE, hNC⟩ := hv
  have hE : yEV0 s s.heap := hE
  have hx := B.exec
  have hb := B.bytes
  have hr := B.returns
  have hts := atoms_spec (ws := wsL_withKey) B.pre
  have hown : s.vm.findClass RL = some m.cls := findClass_of_methodNamed B.named
  have hlocks := B.notSynchronized
  have htab : c_.exceptionTable.toList = tableOf [(0, 9, 12, 39)] := vx_table (x := yL_withKey) B (hts (.codeWith yL_withKey cL_withKey 4 (some .int) [(0, 9, 12, 39)]) List.mem_cons_self)
  subst hsz
  have hD := hND.self (sz := s.heap.size)
  have hA9 : ∀ q, va_A (W2 k h a c C n0 M ds n1 d) s.heap.size q → va_A (WL k oL fL h a c C n0 M ds n1 d) s.heap.size q := fun q h => yA_tl h
  generalize hAe : va_A (WL k oL fL h a c C n0 M ds n1 d) s.heap.size = A at hD hA9 ⊢
  have hA : ∀ q : Nat, s.heap.size ≤ q → A q := fun q h => by rw [← hAe]; exact Or.inr h
  have hS : va_S A s.heap s.heap [] := va_S.rf
  have hP2 : va_P G vwCl (W2 k h a c C n0 M ds n1 d) s.heap := yP_tl hP
  have hND2 : va_D (fun _ => True) (W2 k h a c C n0 M ds n1 d) := yD_tl hND
  have hl := lv_entry ([.ref h, .int key, .ref oL]) (n := 4) (Nat.le_of_ble_eq_true rfl)
  rw [lg_entry_eq]
  generalize (lg_sl ([.ref h, .int key, .ref oL]) ++ List.replicate (4 - (lg_sl ([.ref h, .int key, .ref oL])).length) Slot.unset).toArray = ls at hl ⊢
  have hl : lv_has ls 4 [(0, .ref h), (1, .int key), (2, .ref oL)] := hl
  refine lv_aload_n hx hb dL_withKey_0 rfl (lv_at hl 2 rfl) ?_
  refine lv_iconst (v := 0) hx hb dL_withKey_1 (by decide) ?_
  refine lv_aload_n hx hb dL_withKey_2 rfl (lv_at hl 0 rfl) ?_
  refine lv_iload_n hx hb dL_withKey_3 rfl (lv_at hl 1 rfl) ?_
  refine y_hread (mk := Value.int) yQi (vx_runV (As := [.int key]) (rest := [.int 0, .ref oL]) ⟨hx, hb, hml, hown, hts⟩ (c_X2_withKey l hl9 G k h a c C n0 M ds n1 d  key  hn1) (cwV 1 hts gL_withKey_X2_withKey rfl rfl rfl (by decide +kernel) ⟨Nat.le_of_ble_eq_true rfl, Nat.le_of_ble_eq_true rfl⟩) ⟨yE_blind, va_recv hK hP2 (ci := 4) (q0 := 0) rfl rfl, fun U hU hW => ⟨rfl, by rw [hU]; exact hP2, va_K.moved hW.alike hK, yEV_at hE hU hW⟩⟩ rfl rfl hl.1 rfl (lv_room (Nat.le_of_ble_eq_true rfl)) dL_withKey_4 ⟨Nat.le_of_ble_eq_true rfl, Nat.le_of_ble_eq_true rfl⟩) hS ?_ (fun r hp9 => ?_)
  · intro E ce q9 H1 locs1 hpx hk9 hS9 hce hcv hcl
    rcases hpx with ⟨rfl, hcd⟩
    · have hcd9 : ¬ (o_withKey key M n1).1 = 0 := by rw [hcd]; decide
      have hPf : va_P G vwCl (WL k oL fL h a c C n0 M ds n1 d) H1 := yKeep hP hk9
      refine vx_catch (own := RL) (name := "java/util/NoSuchElementException") (E := "java/util/NoSuchElementException") (ce := ce) hown [] (⟨0, 9, 12, 39⟩ : ExceptionTableEntry) [] (by rw [htab]; rfl) (fun z hz => nomatch hz) (by decide) (by decide) (hts (.classLink RL 39 "java/util/NoSuchElementException") (by decide +kernel)) (va_Nw.use rfl (hE.1 (.castable "java/util/NoSuchElementException" "java/util/NoSuchElementException") (by decide +kernel))) hce hcv hcl ?_
      refine lv_astore_n (lv' := [(3, .ref q9), (0, .ref h), (1, .int key), (2, .ref oL)]) hx hb dL_withKey_12 rfl hl (by decide) rfl (fun ls hl => ?_)
      refine lv_iconst (v := 1) hx hb dL_withKey_13 (by decide) ?_
      exact W.iret (v := 1) hx hb hr (fun τ hτ hW => ⟨⟨_, fL, rfl, ⟨hcd.symm, fun h9 => absurd h9 hcd9⟩, yPt hPf hτ⟩, hS9.F hτ⟩) hS9.2.2 dL_withKey_14
  · obtain ⟨hp8, hp9⟩ := hp9
    have hP9 := hP
    have hD9 := hD
    have hS9 := hS
    subst hp9
    refine lv_i2l (v := ((o_withKey key M n1).2).toInt64) hx hb dL_withKey_7 rfl ?_
    refine va_last hx hb hK hP9 hD9 hS9 0 3 rfl rfl (x := (((o_withKey key M n1).2).toInt64)) (vp_in_nI (n := 0) (N := 1) (by decide) (by decide)) dL_withKey_8 (fun H2 locs2 hP8 hD8 hS8 => ?_)
    have hPf : va_P G vwCl (WL k oL (vp_updL fL 0 (((o_withKey key M n1).2).toInt64)) h a c C n0 M ds n1 d) H2 := hP8
    refine lv_goto (tgt := 15) hx hb dL_withKey_9 (by decide) ?_
    refine lv_iconst (v := 0) hx hb dL_withKey_15 (by decide) ?_
    exact W.iret (v := 0) hx hb hr (fun τ hτ hW => ⟨⟨_, (vp_updL fL 0 (((o_withKey key M n1).2).toInt64)), rfl, ⟨hp8.symm, fun _ => by rfl⟩, yPt hPf hτ⟩, hS8.F hτ⟩) hS8.2.2 dL_withKey_16

set_option maxHeartbeats 4000000 in
set_option maxRecDepth 100000 in
theorem c_L_state (l : Launch) (hl9 : l.stackTraces = false) (G : va_G) (k : Nat → ClassId) (h : Nat) (a : Nat → Nat) (c : Nat → Nat) (C : Nat → Nat → Int32) (n0 : Nat) (M : Nat → Nat → Int32) (ds : Nat) (n1 : Nat) (d : Nat) (oL : Nat) (fL : Nat → Int64) (sz : Nat) (x : Int32) (hND : va_D (fun _ => True) (WL k oL fL h a c C n0 M ds n1 d)) (hn1 : n1 ≤ 80) (hch : ∀ z, z < n1 → narrow .char (.int (M 5 z)) = .int (M 5 z)) : Met l yL_state wsL_state ({ frames := 8, cells := 1, slots := 6, locals := 132 }) (va_Pc [.ref h, .int x, .ref oL] (yL G (yT k) (WL k oL fL h a c C n0 M ds n1 d) sz)) (va_Qi (fun (r : Int32) (f : Nat → Int64) => r = (o_row 5 32 x M n1).1 ∧ ((o_row 5 32 x M n1).1 = 0 → f 0 = ((o_row 5 32 x M n1).2).toInt64)) (fun f τ => va_P G vwCl (WL k oL f h a c C n0 M ds n1 d) τ.heap) (va_A (WL k oL fL h a c C n0 M ds n1 d) sz)) 1 6 (va_A (WL k oL fL h a c C n0 M ds n1 d) sz) := by
  refine va_MetW (cc := cL_state) (maxL := 4) (ret := (some .int)) (hh := [(0, 9, 12, 21)]) (by decide) rfl ?_
  intro p e s m args below meth c_ s₁ B hml hv
  obtain ⟨rfl, hsz, hP, hK, hE, hNC⟩ := hv
  have hE : yEV0 s s.heap := hE
  have hx := B.exec
  have hb := B.bytes
  have hr := B.returns
  have hts := atoms_spec (ws := wsL_state) B.pre
  have hown : s.vm.findClass RL = some m.cls := findClass_of_methodNamed B.named
  have hlocks := B.notSynchronized
  have htab : c_.exceptionTable.toList = tableOf [(0, 9, 12, 21)] := vx_table (x := yL_state) B (hts (.codeWith yL_state cL_state 4 (some .int) [(0, 9, 12, 21)]) List.mem_cons_self)
  subst hsz
  have hD := hND.self (sz := s.heap.size)
  have hA9 : ∀ q, va_A (W2 k h a c C n0 M ds n1 d) s.heap.size q → va_A (WL k oL fL h a c C n0 M ds n1 d) s.heap.size q := fun q h => yA_tl h
  generalize hAe : va_A (WL k oL fL h a c C n0 M ds n1 d) s.heap.size = A at hD hA9 ⊢
  have hA : ∀ q : Nat, s.heap.size ≤ q → A q := fun q h => by rw [← hAe]; exact Or.inr h
  have hS : va_S A s.heap s.heap [] := va_S.rf
  have hP2 : va_P G vwCl (W2 k h a c C n0 M ds n1 d) s.heap := yP_tl hP
  have hND2 : va_D (fun _ => True) (W2 k h a c C n0 M ds n1 d) := yD_tl hND
  have hl := lv_entry ([.ref h, .int x, .ref oL]) (n := 4) (Nat.le_of_ble_eq_true rfl)
  rw [lg_entry_eq]
  generalize (lg_sl ([.ref h, .int x, .ref oL]) ++ List.replicate (4 - (lg_sl ([.ref h, .int x, .ref oL])).length) Slot.unset).toArray = ls at hl ⊢
  have hl : lv_has ls 4 [(0, .ref h), (1, .int x), (2, .ref oL)] := hl
  refine lv_aload_n hx hb dL_state_0 rfl (lv_at hl 2 rfl) ?_
  refine lv_iconst (v := 0) hx hb dL_state_1 (by decide) ?_
  refine lv_aload_n hx hb dL_state_2 rfl (lv_at hl 0 rfl) ?_
  refine lv_iload_n hx hb dL_state_3 rfl (lv_at hl 1 rfl) ?_
  refine y_hread (mk := Value.int) yQi (vx_runV (As := [.int x]) (rest := [.int 0, .ref oL]) ⟨hx, hb, hml, hown, hts⟩ (c_X2_state l hl9 G k h a c C n0 M ds n1 d  x  hn1 hch) (cwV 1 hts gL_state_X2_state rfl rfl rfl (by decide +kernel) ⟨Nat.le_of_ble_eq_true rfl, Nat.le_of_ble_eq_true rfl⟩) ⟨yE_blind, va_recv hK hP2 (ci := 4) (q0 := 0) rfl rfl, fun U hU hW => ⟨rfl, by rw [hU]; exact hP2, va_K.moved hW.alike hK, yEV_at hE hU hW⟩⟩ rfl rfl hl.1 rfl (lv_room (Nat.le_of_ble_eq_true rfl)) dL_state_4 ⟨Nat.le_of_ble_eq_true rfl, Nat.le_of_ble_eq_true rfl⟩) hS ?_ (fun r hp9 => ?_)
  · intro E ce q9 H1 locs1 hpx hk9 hS9 hce hcv hcl
    rcases hpx with ⟨rfl, hcd⟩
    · have hcd9 : ¬ (o_row 5 32 x M n1).1 = 0 := by rw [hcd]; decide
      have hPf : va_P G vwCl (WL k oL fL h a c C n0 M ds n1 d) H1 := yKeep hP hk9
      refine vx_catch (own := RL) (name := "java/lang/IndexOutOfBoundsException") (E := "java/lang/IndexOutOfBoundsException") (ce := ce) hown [] (⟨0, 9, 12, 21⟩ : ExceptionTableEntry) [] (by rw [htab]; rfl) (fun z hz => nomatch hz) (by decide) (by decide) (hts (.classLink RL 21 "java/lang/IndexOutOfBoundsException") (by decide +kernel)) (va_Nw.use rfl (hE.1 (.castable "java/lang/IndexOutOfBoundsException" "java/lang/IndexOutOfBoundsException") (by decide +kernel))) hce hcv hcl ?_
      refine lv_astore_n (lv' := [(3, .ref q9), (0, .ref h), (1, .int x), (2, .ref oL)]) hx hb dL_state_12 rfl hl (by decide) rfl (fun ls hl => ?_)
      refine lv_iconst (v := 1) hx hb dL_state_13 (by decide) ?_
      exact W.iret (v := 1) hx hb hr (fun τ hτ hW => ⟨⟨_, fL, rfl, ⟨hcd.symm, fun h9 => absurd h9 hcd9⟩, yPt hPf hτ⟩, hS9.F hτ⟩) hS9.2.2 dL_state_14
  · obtain ⟨hp8, hp9⟩ := hp9
    have hP9 := hP
    have hD9 := hD
    have hS9 := hS
    subst hp9
    refine lv_i2l (v := ((o_row 5 32 x M n1).2).toInt64) hx hb dL_state_7 rfl ?_
    refine va_last hx hb hK hP9 hD9 hS9 0 3 rfl rfl (x := (((o_row 5 32 x M n1).2).toInt64)) (vp_in_nI (n := 0) (N := 1) (by decide) (by decide)) dL_state_8 (fun H2 locs2 hP8 hD8 hS8 => ?_)
    have hPf : va_P G vwCl (WL k oL (vp_updL fL 0 (((o_row 5 32 x M n1).2).toInt64)) h a c C n0 M ds n1 d) H2 := hP8
    refine lv_goto (tgt := 15) hx hb dL_state_9 (by decide) ?_
    refine lv_iconst (v := 0) hx hb dL_state_15 (by decide) ?_
    exact W.iret (v := 0) hx hb hr (fun τ hτ hW => ⟨⟨_, (vp_updL fL 0 (((o_row 5 32 x M n1).2).toInt64)), rfl, ⟨hp8.symm, fun _ => by rfl⟩, yPt hPf hτ⟩, hS8.F hτ⟩) hS8.2.2 dL_state_16

set_option maxHeartbeats 4000000 in
set_option maxRecDepth 100000 in
theorem c_L_kind (l : Launch) (hl9 : l.stackTraces = false) (G : va_G) (k : Nat → ClassId) (h : Nat) (a : Nat → Nat) (c : Nat → Nat) (C : Nat → Nat → Int32) (n0 : Nat) (M : Nat → Nat → Int32) (ds : Nat) (n1 : Nat) (d : Nat) (oL : Nat) (fL : Nat → Int64) (sz : Nat) (x : Int32) (hND : va_D (fun _ => True) (WL k oL fL h a c C n0 M ds n1 d)) (hn1 : n1 ≤ 80) (hch : ∀ z, z < n1 → narrow .char (.int (M 2 z)) = .int (M 2 z)) : Met l yL_kind wsL_kind ({ frames := 8, cells := 1, slots := 6, locals := 132 }) (va_Pc [.ref h, .int x, .ref oL] (yL G (yT k) (WL k oL fL h a c C n0 M ds n1 d) sz)) (va_Qi (fun (r : Int32) (f : Nat → Int64) => r = (o_row 2 32 x M n1).1 ∧ ((o_row 2 32 x M n1).1 = 0 → f 0 = ((o_row 2 32 x M n1).2).toInt64)) (fun f τ => va_P G vwCl (WL k oL f h a c C n0 M ds n1 d) τ.heap) (va_A (WL k oL fL h a c C n0 M ds n1 d) sz)) 1 6 (va_A (WL k oL fL h a c C n0 M ds n1 d) sz) := by
  refine va_MetW (cc := cL_kind) (maxL := 4) (ret := (some .int)) (hh := [(0, 9, 12, 21)]) (by decide) rfl ?_
  intro p e s m args below meth c_ s₁ B hml hv
  obtain ⟨rfl, hsz, hP, hK, hE, hNC⟩ := hv
  have hE : yEV0 s s.heap := hE
  have hx := B.exec
  have hb := B.bytes
  have hr := B.returns
  have hts := atoms_spec (ws := wsL_kind) B.pre
  have hown : s.vm.findClass RL = some m.cls := findClass_of_methodNamed B.named
  have hlocks := B.notSynchronized
  have htab : c_.exceptionTable.toList = tableOf [(0, 9, 12, 21)] := vx_table (x := yL_kind) B (hts (.codeWith yL_kind cL_kind 4 (some .int) [(0, 9, 12, 21)]) List.mem_cons_self)
  subst hsz
  have hD := hND.self (sz := s.heap.size)
  have hA9 : ∀ q, va_A (W2 k h a c C n0 M ds n1 d) s.heap.size q → va_A (WL k oL fL h a c C n0 M ds n1 d) s.heap.size q := fun q h => yA_tl h
  generalize hAe : va_A (WL k oL fL h a c C n0 M ds n1 d) s.heap.size = A at hD hA9 ⊢
  have hA : ∀ q : Nat, s.heap.size ≤ q → A q := fun q h => by rw [← hAe]; exact Or.inr h
  have hS : va_S A s.heap s.heap [] := va_S.rf
  have hP2 : va_P G vwCl (W2 k h a c C n0 M ds n1 d) s.heap := yP_tl hP
  have hND2 : va_D (fun _ => True) (W2 k h a c C n0 M ds n1 d) := yD_tl hND
  have hl := lv_entry ([.ref h, .int x, .ref oL]) (n := 4) (Nat.le_of_ble_eq_true rfl)
  rw [lg_entry_eq]
  generalize (lg_sl ([.ref h, .int x, .ref oL]) ++ List.replicate (4 - (lg_sl ([.ref h, .int x, .ref oL])).length) Slot.unset).toArray = ls at hl ⊢
  have hl : lv_has ls 4 [(0, .ref h), (1, .int x), (2, .ref oL)] := hl
  refine lv_aload_n hx hb dL_kind_0 rfl (lv_at hl 2 rfl) ?_
  refine lv_iconst (v := 0) hx hb dL_kind_1 (by decide) ?_
  refine lv_aload_n hx hb dL_kind_2 rfl (lv_at hl 0 rfl) ?_
  refine lv_iload_n hx hb dL_kind_3 rfl (lv_at hl 1 rfl) ?_
  refine y_hread (mk := Value.int) yQi (vx_runV (As := [.int x]) (rest := [.int 0, .ref oL]) ⟨hx, hb, hml, hown, hts⟩ (c_X2_kind l hl9 G k h a c C n0 M ds n1 d  x  hn1 hch) (cwV 1 hts gL_kind_X2_kind rfl rfl rfl (by decide +kernel) ⟨Nat.le_of_ble_eq_true rfl, Nat.le_of_ble_eq_true rfl⟩) ⟨yE_blind, va_recv hK hP2 (ci := 4) (q0 := 0) rfl rfl, fun U hU hW => ⟨rfl, by rw [hU]; exact hP2, va_K.moved hW.alike hK, yEV_at hE hU hW⟩⟩ rfl rfl hl.1 rfl (lv_room (Nat.le_of_ble_eq_true rfl)) dL_kind_4 ⟨Nat.le_of_ble_eq_true rfl, Nat.le_of_ble_eq_true rfl⟩) hS ?_ (fun r hp9 => ?_)
  · intro E ce q9 H1 locs1 hpx hk9 hS9 hce hcv hcl
    rcases hpx with ⟨rfl, hcd⟩
    · have hcd9 : ¬ (o_row 2 32 x M n1).1 = 0 := by rw [hcd]; decide
      have hPf : va_P G vwCl (WL k oL fL h a c C n0 M ds n1 d) H1 := yKeep hP hk9
      refine vx_catch (own := RL) (name := "java/lang/IndexOutOfBoundsException") (E := "java/lang/IndexOutOfBoundsException") (ce := ce) hown [] (⟨0, 9, 12, 21⟩ : ExceptionTableEntry) [] (by rw [htab]; rfl) (fun z hz => nomatch hz) (by decide) (by decide) (hts (.classLink RL 21 "java/lang/IndexOutOfBoundsException") (by decide +kernel)) (va_Nw.use rfl (hE.1 (.castable "java/lang/IndexOutOfBoundsException" "java/lang/IndexOutOfBoundsException") (by decide +kernel))) hce hcv hcl ?_
      refine lv_astore_n (lv' := [(3, .ref q9), (0, .ref h), (1, .int x), (2, .ref oL)]) hx hb dL_kind_12 rfl hl (by decide) rfl (fun ls hl => ?_)
      refine lv_iconst (v := 1) hx hb dL_kind_13 (by decide) ?_
      exact W.iret (v := 1) hx hb hr (fun τ hτ hW => ⟨⟨_, fL, rfl, ⟨hcd.symm, fun h9 => absurd h9 hcd9⟩, yPt hPf hτ⟩, hS9.F hτ⟩) hS9.2.2 dL_kind_14
  · obtain ⟨hp8, hp9⟩ := hp9
    have hP9 := hP
    have hD9 := hD
    have hS9 := hS
    subst hp9
    refine lv_i2l (v := ((o_row 2 32 x M n1).2).toInt64) hx hb dL_kind_7 rfl ?_
    refine va_last hx hb hK hP9 hD9 hS9 0 3 rfl rfl (x := (((o_row 2 32 x M n1).2).toInt64)) (vp_in_nI (n := 0) (N := 1) (by decide) (by decide)) dL_kind_8 (fun H2 locs2 hP8 hD8 hS8 => ?_)
    have hPf : va_P G vwCl (WL k oL (vp_updL fL 0 (((o_row 2 32 x M n1).2).toInt64)) h a c C n0 M ds n1 d) H2 := hP8
    refine lv_goto (tgt := 15) hx hb dL_kind_9 (by decide) ?_
    refine lv_iconst (v := 0) hx hb dL_kind_15 (by decide) ?_
    exact W.iret (v := 0) hx hb hr (fun τ hτ hW => ⟨⟨_, (vp_updL fL 0 (((o_row 2 32 x M n1).2).toInt64)), rfl, ⟨hp8.symm, fun _ => by rfl⟩, yPt hPf hτ⟩, hS8.F hτ⟩) hS8.2.2 dL_kind_16

set_option maxHeartbeats 4000000 in
set_option maxRecDepth 100000 in
theorem c_L_tries (l : Launch) (hl9 : l.stackTraces = false) (G : va_G) (k : Nat → ClassId) (h : Nat) (a : Nat → Nat) (c : Nat → Nat) (C : Nat → Nat → Int32) (n0 : Nat) (M : Nat → Nat → Int32) (ds : Nat) (n1 : Nat) (d : Nat) (oL : Nat) (fL : Nat → Int64) (sz : Nat) (x : Int32) (hND : va_D (fun _ => True) (WL k oL fL h a c C n0 M ds n1 d)) (hn1 : n1 ≤ 80) : Met l yL_tries wsL_tries ({ frames := 8, cells := 1, slots := 6, locals := 132 }) (va_Pc [.ref h, .int x, .ref oL] (yL G (yT k) (WL k oL fL h a c C n0 M ds n1 d) sz)) (va_Qi (fun (r : Int32) (f : Nat → Int64) => r = (o_row 7 0 x M n1).1 ∧ ((o_row 7 0 x M n1).1 = 0 → f 0 = ((o_row 7 0 x M n1).2).toInt64)) (fun f τ => va_P G vwCl (WL k oL f h a c C n0 M ds n1 d) τ.heap) (va_A (WL k oL fL h a c C n0 M ds n1 d) sz)) 1 6 (va_A (WL k oL fL h a c C n0 M ds n1 d) sz) := by
  refine va_MetW (cc := cL_tries) (maxL := 4) (ret := (some .int)) (hh := [(0, 9, 12, 21)]) (by decide) rfl ?_
  intro p e s m args below meth c_ s₁ B hml hv
  obtain ⟨rfl, hsz, hP, hK, hE, hNC⟩ := hv
  have hE : yEV0 s s.heap := hE
  have hx := B.exec
  have hb := B.bytes
  have hr := B.returns
  have hts := atoms_spec (ws := wsL_tries) B.pre
  have hown : s.vm.findClass RL = some m.cls := findClass_of_methodNamed B.named
  have hlocks := B.notSynchronized
  have htab : c_.exceptionTable.toList = tableOf [(0, 9, 12, 21)] := vx_table (x := yL_tries) B (hts (.codeWith yL_tries cL_tries 4 (some .int) [(0, 9, 12, 21)]) List.mem_cons_self)
  subst hsz
  have hD := hND.self (sz := s.heap.size)
  have hA9 : ∀ q, va_A (W2 k h a c C n0 M ds n1 d) s.heap.size q → va_A (WL k oL fL h a c C n0 M ds n1 d) s.heap.size q := fun q h => yA_tl h
  generalize hAe : va_A (WL k oL fL h a c C n0 M ds n1 d) s.heap.size = A at hD hA9 ⊢
  have hA : ∀ q : Nat, s.heap.size ≤ q → A q := fun q h => by rw [← hAe]; exact Or.inr h
  have hS : va_S A s.heap s.heap [] := va_S.rf
  have hP2 : va_P G vwCl (W2 k h a c C n0 M ds n1 d) s.heap := yP_tl hP
  have hND2 : va_D (fun _ => True) (W2 k h a c C n0 M ds n1 d) := yD_tl hND
  have hl := lv_entry ([.ref h, .int x, .ref oL]) (n := 4) (Nat.le_of_ble_eq_true rfl)
  rw [lg_entry_eq]
  generalize (lg_sl ([.ref h, .int x, .ref oL]) ++ List.replicate (4 - (lg_sl ([.ref h, .int x, .ref oL])).length) Slot.unset).toArray = ls at hl ⊢
  have hl : lv_has ls 4 [(0, .ref h), (1, .int x), (2, .ref oL)] := hl
  refine lv_aload_n hx hb dL_tries_0 rfl (lv_at hl 2 rfl) ?_
  refine lv_iconst (v := 0) hx hb dL_tries_1 (by decide) ?_
  refine lv_aload_n hx hb dL_tries_2 rfl (lv_at hl 0 rfl) ?_
  refine lv_iload_n hx hb dL_tries_3 rfl (lv_at hl 1 rfl) ?_
  refine y_hread (mk := Value.int) yQi (vx_runV (As := [.int x]) (rest := [.int 0, .ref oL]) ⟨hx, hb, hml, hown, hts⟩ (c_X2_tries l hl9 G k h a c C n0 M ds n1 d  x  hn1) (cwV 1 hts gL_tries_X2_tries rfl rfl rfl (by decide +kernel) ⟨Nat.le_of_ble_eq_true rfl, Nat.le_of_ble_eq_true rfl⟩) ⟨yE_blind, va_recv hK hP2 (ci := 4) (q0 := 0) rfl rfl, fun U hU hW => ⟨rfl, by rw [hU]; exact hP2, va_K.moved hW.alike hK, yEV_at hE hU hW⟩⟩ rfl rfl hl.1 rfl (lv_room (Nat.le_of_ble_eq_true rfl)) dL_tries_4 ⟨Nat.le_of_ble_eq_true rfl, Nat.le_of_ble_eq_true rfl⟩) hS ?_ (fun r hp9 => ?_)
  · intro E ce q9 H1 locs1 hpx hk9 hS9 hce hcv hcl
    rcases hpx with ⟨rfl, hcd⟩
    · have hcd9 : ¬ (o_row 7 0 x M n1).1 = 0 := by rw [hcd]; decide
      have hPf : va_P G vwCl (WL k oL fL h a c C n0 M ds n1 d) H1 := yKeep hP hk9
      refine vx_catch (own := RL) (name := "java/lang/IndexOutOfBoundsException") (E := "java/lang/IndexOutOfBoundsException") (ce := ce) hown [] (⟨0, 9, 12, 21⟩ : ExceptionTableEntry) [] (by rw [htab]; rfl) (fun z hz => nomatch hz) (by decide) (by decide) (hts (.classLink RL 21 "java/lang/IndexOutOfBoundsException") (by decide +kernel)) (va_Nw.use rfl (hE.1 (.castable "java/lang/IndexOutOfBoundsException" "java/lang/IndexOutOfBoundsException") (by decide +kernel))) hce hcv hcl ?_
      refine lv_astore_n (lv' := [(3, .ref q9), (0, .ref h), (1, .int x), (2, .ref oL)]) hx hb dL_tries_12 rfl hl (by decide) rfl (fun ls hl => ?_)
      refine lv_iconst (v := 1) hx hb dL_tries_13 (by decide) ?_
      exact W.iret (v := 1) hx hb hr (fun τ hτ hW => ⟨⟨_, fL, rfl, ⟨hcd.symm, fun h9 => absurd h9 hcd9⟩, yPt hPf hτ⟩, hS9.F hτ⟩) hS9.2.2 dL_tries_14
  · obtain ⟨hp8, hp9⟩ := hp9
    have hP9 := hP
    have hD9 := hD
    have hS9 := hS
    subst hp9
    refine lv_i2l (v := ((o_row 7 0 x M n1).2).toInt64) hx hb dL_tries_7 rfl ?_
    refine va_last hx hb hK hP9 hD9 hS9 0 3 rfl rfl (x := (((o_row 7 0 x M n1).2).toInt64)) (vp_in_nI (n := 0) (N := 1) (by decide) (by decide)) dL_tries_8 (fun H2 locs2 hP8 hD8 hS8 => ?_)
    have hPf : va_P G vwCl (WL k oL (vp_updL fL 0 (((o_row 7 0 x M n1).2).toInt64)) h a c C n0 M ds n1 d) H2 := hP8
    refine lv_goto (tgt := 15) hx hb dL_tries_9 (by decide) ?_
    refine lv_iconst (v := 0) hx hb dL_tries_15 (by decide) ?_
    exact W.iret (v := 0) hx hb hr (fun τ hτ hW => ⟨⟨_, (vp_updL fL 0 (((o_row 7 0 x M n1).2).toInt64)), rfl, ⟨hp8.symm, fun _ => by rfl⟩, yPt hPf hτ⟩, hS8.F hτ⟩) hS8.2.2 dL_tries_16

set_option maxHeartbeats 4000000 in
set_option maxRecDepth 100000 in
theorem c_L_readyAt (l : Launch) (hl9 : l.stackTraces = false) (G : va_G) (k : Nat → ClassId) (h : Nat) (a : Nat → Nat) (c : Nat → Nat) (C : Nat → Nat → Int32) (n0 : Nat) (M : Nat → Nat → Int32) (ds : Nat) (n1 : Nat) (d : Nat) (oL : Nat) (fL : Nat → Int64) (sz : Nat) (x : Int32) (hND : va_D (fun _ => True) (WL k oL fL h a c C n0 M ds n1 d)) (hn1 : n1 ≤ 80) : Met l yL_readyAt wsL_readyAt ({ frames := 8, cells := 2, slots := 12, locals := 133 }) (va_Pc [.ref h, .int x, .ref oL] (yL G (yT k) (WL k oL fL h a c C n0 M ds n1 d) sz)) (va_Qi (fun (r : Int32) (f : Nat → Int64) => r = (o_rowIf 6 119 x M n1).1 ∧ ((o_rowIf 6 119 x M n1).1 = 0 → f 0 = ((o_rowIf 6 119 x M n1).2).toInt64)) (fun f τ => va_P G vwCl (WL k oL f h a c C n0 M ds n1 d) τ.heap) (va_A (WL k oL fL h a c C n0 M ds n1 d) sz)) 2 12 (va_A (WL k oL fL h a c C n0 M ds n1 d) sz) := by
  refine va_MetW (cc := cL_readyAt) (maxL := 4) (ret := (some .int)) (hh := [(0, 9, 12, 21), (0, 9, 15, 15)]) (by decide) rfl ?_
  intro p e s m args below meth c_ s₁ B hml hv
  obtain ⟨rfl, hsz, hP, hK, hE, hNC⟩ := hv
  have hE : yEV0 s s.heap := hE
  have hx := B.exec
  have hb := B.bytes
  have hr := B.returns
  have hts := atoms_spec (ws := wsL_readyAt) B.pre
  have hown : s.vm.findClass RL = some m.cls := findClass_of_methodNamed B.named
  have hlocks := B.notSynchronized
  have htab : c_.exceptionTable.toList = tableOf [(0, 9, 12, 21), (0, 9, 15, 15)] := vx_table (x := yL_readyAt) B (hts (.codeWith yL_readyAt cL_readyAt 4 (some .int) [(0, 9, 12, 21), (0, 9, 15, 15)]) List.mem_cons_self)
  subst hsz
  have hD := hND.self (sz := s.heap.size)
  have hA9 : ∀ q, va_A (W2 k h a c C n0 M ds n1 d) s.heap.size q → va_A (WL k oL fL h a c C n0 M ds n1 d) s.heap.size q := fun q h => yA_tl h
  generalize hAe : va_A (WL k oL fL h a c C n0 M ds n1 d) s.heap.size = A at hD hA9 ⊢
  have hA : ∀ q : Nat, s.heap.size ≤ q → A q := fun q h => by rw [← hAe]; exact Or.inr h
  have hS : va_S A s.heap s.heap [] := va_S.rf
  have hP2 : va_P G vwCl (W2 k h a c C n0 M ds n1 d) s.heap := yP_tl hP
  have hND2 : va_D (fun _ => True) (W2 k h a c C n0 M ds n1 d) := yD_tl hND
  have hl := lv_entry ([.ref h, .int x, .ref oL]) (n := 4) (Nat.le_of_ble_eq_true rfl)
  rw [lg_entry_eq]
  generalize (lg_sl ([.ref h, .int x, .ref oL]) ++ List.replicate (4 - (lg_sl ([.ref h, .int x, .ref oL])).length) Slot.unset).toArray = ls at hl ⊢
  have hl : lv_has ls 4 [(0, .ref h), (1, .int x), (2, .ref oL)] := hl
  refine lv_aload_n hx hb dL_readyAt_0 rfl (lv_at hl 2 rfl) ?_
  refine lv_iconst (v := 0) hx hb dL_readyAt_1 (by decide) ?_
  refine lv_aload_n hx hb dL_readyAt_2 rfl (lv_at hl 0 rfl) ?_
  refine lv_iload_n hx hb dL_readyAt_3 rfl (lv_at hl 1 rfl) ?_
  refine y_hread (mk := Value.int) yQi (vx_runV (As := [.int x]) (rest := [.int 0, .ref oL]) ⟨hx, hb, hml, hown, hts⟩ (c_X2_readyAt l hl9 G k h a c C n0 M ds n1 d  x  hn1) (cwV 1 hts gL_readyAt_X2_readyAt rfl rfl rfl (by decide +kernel) ⟨Nat.le_of_ble_eq_true rfl, Nat.le_of_ble_eq_true rfl⟩) ⟨yE_blind, va_recv hK hP2 (ci := 4) (q0 := 0) rfl rfl, fun U hU hW => ⟨rfl, by rw [hU]; exact hP2, va_K.moved hW.alike hK, yEV_at hE hU hW⟩⟩ rfl rfl hl.1 rfl (lv_room (Nat.le_of_ble_eq_true rfl)) dL_readyAt_4 ⟨Nat.le_of_ble_eq_true rfl, Nat.le_of_ble_eq_true rfl⟩) hS ?_ (fun r hp9 => ?_)
  · intro E ce q9 H1 locs1 hpx hk9 hS9 hce hcv hcl
    rcases hpx with ⟨rfl, hcd⟩ | ⟨rfl, hcd⟩
    · have hcd9 : ¬ (o_rowIf 6 119 x M n1).1 = 0 := by rw [hcd]; decide
      have hPf : va_P G vwCl (WL k oL fL h a c C n0 M ds n1 d) H1 := yKeep hP hk9
      refine vx_catch (own := RL) (name := "java/lang/IndexOutOfBoundsException") (E := "java/lang/IndexOutOfBoundsException") (ce := ce) hown [] (⟨0, 9, 12, 21⟩ : ExceptionTableEntry) [(⟨0, 9, 15, 15⟩ : ExceptionTableEntry)] (by rw [htab]; rfl) (fun z hz => nomatch hz) (by decide) (by decide) (hts (.classLink RL 21 "java/lang/IndexOutOfBoundsException") (by decide +kernel)) (va_Nw.use rfl (hE.1 (.castable "java/lang/IndexOutOfBoundsException" "java/lang/IndexOutOfBoundsException") (by decide +kernel))) hce hcv hcl ?_
      refine lv_astore_n (lv' := [(3, .ref q9), (0, .ref h), (1, .int x), (2, .ref oL)]) hx hb dL_readyAt_12 rfl hl (by decide) rfl (fun ls hl => ?_)
      refine lv_iconst (v := 1) hx hb dL_readyAt_13 (by decide) ?_
      exact W.iret (v := 1) hx hb hr (fun τ hτ hW => ⟨⟨_, fL, rfl, ⟨hcd.symm, fun h9 => absurd h9 hcd9⟩, yPt hPf hτ⟩, hS9.F hτ⟩) hS9.2.2 dL_readyAt_14
    · have hcd9 : ¬ (o_rowIf 6 119 x M n1).1 = 0 := by rw [hcd]; decide
      have hPf : va_P G vwCl (WL k oL fL h a c C n0 M ds n1 d) H1 := yKeep hP hk9
      refine vx_catch (own := RL) (name := "java/lang/IllegalStateException") (E := "java/lang/IllegalStateException") (ce := ce) hown [(⟨0, 9, 12, 21⟩ : ExceptionTableEntry)] (⟨0, 9, 15, 15⟩ : ExceptionTableEntry) [] (by rw [htab]; rfl) (fun z hz => by rcases List.mem_singleton.mp hz with rfl; exact Or.inr ⟨by decide, "java/lang/IndexOutOfBoundsException", hts (.classLink RL 21 "java/lang/IndexOutOfBoundsException") (by decide +kernel), hNC ("java/lang/IllegalStateException", "java/lang/IndexOutOfBoundsException") (by decide +kernel)⟩) (by decide) (by decide) (hts (.classLink RL 15 "java/lang/IllegalStateException") (by decide +kernel)) (va_Nw.use rfl (hE.1 (.castable "java/lang/IllegalStateException" "java/lang/IllegalStateException") (by decide +kernel))) hce hcv hcl ?_
      refine lv_astore_n (lv' := [(3, .ref q9), (0, .ref h), (1, .int x), (2, .ref oL)]) hx hb dL_readyAt_15 rfl hl (by decide) rfl (fun ls hl => ?_)
      refine lv_iconst (v := 2) hx hb dL_readyAt_16 (by decide) ?_
      exact W.iret (v := 2) hx hb hr (fun τ hτ hW => ⟨⟨_, fL, rfl, ⟨hcd.symm, fun h9 => absurd h9 hcd9⟩, yPt hPf hτ⟩, hS9.F hτ⟩) hS9.2.2 dL_readyAt_17
  · obtain ⟨hp8, hp9⟩ := hp9
    have hP9 := hP
    have hD9 := hD
    have hS9 := hS
    subst hp9
    refine lv_i2l (v := ((o_rowIf 6 119 x M n1).2).toInt64) hx hb dL_readyAt_7 rfl ?_
    refine va_last hx hb hK hP9 hD9 hS9 0 3 rfl rfl (x := (((o_rowIf 6 119 x M n1).2).toInt64)) (vp_in_nI (n := 0) (N := 1) (by decide) (by decide)) dL_readyAt_8 (fun H2 locs2 hP8 hD8 hS8 => ?_)
    have hPf : va_P G vwCl (WL k oL (vp_updL fL 0 (((o_rowIf 6 119 x M n1).2).toInt64)) h a c C n0 M ds n1 d) H2 := hP8
    refine lv_goto (tgt := 18) hx hb dL_readyAt_9 (by decide) ?_
    refine lv_iconst (v := 0) hx hb dL_readyAt_18 (by decide) ?_
    exact W.iret (v := 0) hx hb hr (fun τ hτ hW => ⟨⟨_, (vp_updL fL 0 (((o_rowIf 6 119 x M n1).2).toInt64)), rfl, ⟨hp8.symm, fun _ => by rfl⟩, yPt hPf hτ⟩, hS8.F hτ⟩) hS8.2.2 dL_readyAt_19

set_option maxHeartbeats 4000000 in
set_option maxRecDepth 100000 in
theorem c_L_ready (l : Launch) (hl9 : l.stackTraces = false) (G : va_G) (k : Nat → ClassId) (h : Nat) (a : Nat → Nat) (c : Nat → Nat) (C : Nat → Nat → Int32) (n0 : Nat) (M : Nat → Nat → Int32) (ds : Nat) (n1 : Nat) (d : Nat) (oL : Nat) (fL : Nat → Int64) (sz : Nat) (q : Int32) (hND : va_D (fun _ => True) (WL k oL fL h a c C n0 M ds n1 d)) (hn1 : n1 ≤ 80) : Met l yL_ready wsL_ready ({ frames := 8, cells := 1, slots := 6, locals := 131 }) (va_Pc [.ref h, .int q, .ref oL] (yL G (yT k) (WL k oL fL h a c C n0 M ds n1 d) sz)) (va_Qi (fun (r : Int32) (f : Nat → Int64) => r = (o_ready q M n1 d).1 ∧ ((o_ready q M n1 d).1 = 0 → f 0 = ((o_ready q M n1 d).2).toInt64)) (fun f τ => va_P G vwCl (WL k oL f h a c C n0 M ds n1 d) τ.heap) (va_A (WL k oL fL h a c C n0 M ds n1 d) sz)) 1 6 (va_A (WL k oL fL h a c C n0 M ds n1 d) sz) := by
  refine va_MetW (cc := cL_ready) (maxL := 4) (ret := (some .int)) (hh := [(0, 9, 12, 13)]) (by decide) rfl ?_
  intro p e s m args below meth c_ s₁ B hml hv
  obtain ⟨rfl, hsz, hP, hK, hE, hNC⟩ := hv
  have hE : yEV0 s s.heap := hE
  have hx := B.exec
  have hb := B.bytes
  have hr := B.returns
  have hts := atoms_spec (ws := wsL_ready) B.pre
  have hown : s.vm.findClass RL = some m.cls := findClass_of_methodNamed B.named
  have hlocks := B.notSynchronized
  have htab : c_.exceptionTable.toList = tableOf [(0, 9, 12, 13)] := vx_table (x := yL_ready) B (hts (.codeWith yL_ready cL_ready 4 (some .int) [(0, 9, 12, 13)]) List.mem_cons_self)
  subst hsz
  have hD := hND.self (sz := s.heap.size)
  have hA9 : ∀ q, va_A (W2 k h a c C n0 M ds n1 d) s.heap.size q → va_A (WL k oL fL h a c C n0 M ds n1 d) s.heap.size q := fun q h => yA_tl h
  generalize hAe : va_A (WL k oL fL h a c C n0 M ds n1 d) s.heap.size = A at hD hA9 ⊢
  have hA : ∀ q : Nat, s.heap.size ≤ q → A q := fun q h => by rw [← hAe]; exact Or.inr h
  have hS : va_S A s.heap s.heap [] := va_S.rf
  have hP2 : va_P G vwCl (W2 k h a c C n0 M ds n1 d) s.heap := yP_tl hP
  have hND2 : va_D (fun _ => True) (W2 k h a c C n0 M ds n1 d) := yD_tl hND
  have hl := lv_entry ([.ref h, .int q, .ref oL]) (n := 4) (Nat.le_of_ble_eq_true rfl)
  rw [lg_entry_eq]
  generalize (lg_sl ([.ref h, .int q, .ref oL]) ++ List.replicate (4 - (lg_sl ([.ref h, .int q, .ref oL])).length) Slot.unset).toArray = ls at hl ⊢
  have hl : lv_has ls 4 [(0, .ref h), (1, .int q), (2, .ref oL)] := hl
  refine lv_aload_n hx hb dL_ready_0 rfl (lv_at hl 2 rfl) ?_
  refine lv_iconst (v := 0) hx hb dL_ready_1 (by decide) ?_
  refine lv_aload_n hx hb dL_ready_2 rfl (lv_at hl 0 rfl) ?_
  refine lv_iload_n hx hb dL_ready_3 rfl (lv_at hl 1 rfl) ?_
  refine y_hread (mk := Value.int) yQi (vx_runV (As := [.int q]) (rest := [.int 0, .ref oL]) ⟨hx, hb, hml, hown, hts⟩ (c_X2_ready l hl9 G k h a c C n0 M ds n1 d  q  hn1) (cwV 1 hts gL_ready_X2_ready rfl rfl rfl (by decide +kernel) ⟨Nat.le_of_ble_eq_true rfl, Nat.le_of_ble_eq_true rfl⟩) ⟨yE_blind, va_recv hK hP2 (ci := 4) (q0 := 0) rfl rfl, fun U hU hW => ⟨rfl, by rw [hU]; exact hP2, va_K.moved hW.alike hK, yEV_at hE hU hW⟩⟩ rfl rfl hl.1 rfl (lv_room (Nat.le_of_ble_eq_true rfl)) dL_ready_4 ⟨Nat.le_of_ble_eq_true rfl, Nat.le_of_ble_eq_true rfl⟩) hS ?_ (fun r hp9 => ?_)
  · intro E ce q9 H1 locs1 hpx hk9 hS9 hce hcv hcl
    rcases hpx with ⟨rfl, hcd⟩
    · have hcd9 : ¬ (o_ready q M n1 d).1 = 0 := by rw [hcd]; decide
      have hPf : va_P G vwCl (WL k oL fL h a c C n0 M ds n1 d) H1 := yKeep hP hk9
      refine vx_catch (own := RL) (name := "java/lang/IllegalArgumentException") (E := "java/lang/IllegalArgumentException") (ce := ce) hown [] (⟨0, 9, 12, 13⟩ : ExceptionTableEntry) [] (by rw [htab]; rfl) (fun z hz => nomatch hz) (by decide) (by decide) (hts (.classLink RL 13 "java/lang/IllegalArgumentException") (by decide +kernel)) (va_Nw.use rfl (hE.1 (.castable "java/lang/IllegalArgumentException" "java/lang/IllegalArgumentException") (by decide +kernel))) hce hcv hcl ?_
      refine lv_astore_n (lv' := [(3, .ref q9), (0, .ref h), (1, .int q), (2, .ref oL)]) hx hb dL_ready_12 rfl hl (by decide) rfl (fun ls hl => ?_)
      refine lv_iconst (v := 1) hx hb dL_ready_13 (by decide) ?_
      exact W.iret (v := 1) hx hb hr (fun τ hτ hW => ⟨⟨_, fL, rfl, ⟨hcd.symm, fun h9 => absurd h9 hcd9⟩, yPt hPf hτ⟩, hS9.F hτ⟩) hS9.2.2 dL_ready_14
  · obtain ⟨hp8, hp9⟩ := hp9
    have hP9 := hP
    have hD9 := hD
    have hS9 := hS
    subst hp9
    refine lv_i2l (v := ((o_ready q M n1 d).2).toInt64) hx hb dL_ready_7 rfl ?_
    refine va_last hx hb hK hP9 hD9 hS9 0 3 rfl rfl (x := (((o_ready q M n1 d).2).toInt64)) (vp_in_nI (n := 0) (N := 1) (by decide) (by decide)) dL_ready_8 (fun H2 locs2 hP8 hD8 hS8 => ?_)
    have hPf : va_P G vwCl (WL k oL (vp_updL fL 0 (((o_ready q M n1 d).2).toInt64)) h a c C n0 M ds n1 d) H2 := hP8
    refine lv_goto (tgt := 15) hx hb dL_ready_9 (by decide) ?_
    refine lv_iconst (v := 0) hx hb dL_ready_15 (by decide) ?_
    exact W.iret (v := 0) hx hb hr (fun τ hτ hW => ⟨⟨_, (vp_updL fL 0 (((o_ready q M n1 d).2).toInt64)), rfl, ⟨hp8.symm, fun _ => by rfl⟩, yPt hPf hτ⟩, hS8.F hτ⟩) hS8.2.2 dL_ready_16

set_option maxHeartbeats 4000000 in
set_option maxRecDepth 100000 in
theorem c_L_readyAtPlace (l : Launch) (hl9 : l.stackTraces = false) (G : va_G) (k : Nat → ClassId) (h : Nat) (a : Nat → Nat) (c : Nat → Nat) (C : Nat → Nat → Int32) (n0 : Nat) (M : Nat → Nat → Int32) (ds : Nat) (n1 : Nat) (d : Nat) (oL : Nat) (fL : Nat → Int64) (sz : Nat) (q pl : Int32) (hND : va_D (fun _ => True) (WL k oL fL h a c C n0 M ds n1 d)) (hn1 : n1 ≤ 80) : Met l yL_readyAtPlace wsL_readyAtPlace ({ frames := 8, cells := 2, slots := 12, locals := 134 }) (va_Pc [.ref h, .int q, .int pl, .ref oL] (yL G (yT k) (WL k oL fL h a c C n0 M ds n1 d) sz)) (va_Qi (fun (r : Int32) (f : Nat → Int64) => r = (o_rapC q pl M n1 d).1 ∧ ((o_rapC q pl M n1 d).1 = 0 → f 0 = ((o_rapC q pl M n1 d).2).toInt64)) (fun f τ => va_P G vwCl (WL k oL f h a c C n0 M ds n1 d) τ.heap) (va_A (WL k oL fL h a c C n0 M ds n1 d) sz)) 2 12 (va_A (WL k oL fL h a c C n0 M ds n1 d) sz) := by
  refine va_MetW (cc := cL_readyAtPlace) (maxL := 5) (ret := (some .int)) (hh := [(0, 10, 13, 13), (0, 10, 17, 39)]) (by decide) rfl ?_
  intro p e s m args below meth c_ s₁ B hml hv
  obtain ⟨rfl, hsz, hP, hK, hE, hNC⟩ := hv
  have hE : yEV0 s s.heap := hE
  have hx := B.exec
  have hb := B.bytes
  have hr := B.returns
  have hts := atoms_spec (ws := wsL_readyAtPlace) B.pre
  have hown : s.vm.findClass RL = some m.cls := findClass_of_methodNamed B.named
  have hlocks := B.notSynchronized
  have htab : c_.exceptionTable.toList = tableOf [(0, 10, 13, 13), (0, 10, 17, 39)] := vx_table (x := yL_readyAtPlace) B (hts (.codeWith yL_readyAtPlace cL_readyAtPlace 5 (some .int) [(0, 10, 13, 13), (0, 10, 17, 39)]) List.mem_cons_self)
  subst hsz
  have hD := hND.self (sz := s.heap.size)
  have hA9 : ∀ q, va_A (W2 k h a c C n0 M ds n1 d) s.heap.size q → va_A (WL k oL fL h a c C n0 M ds n1 d) s.heap.size q := fun q h => yA_tl h
  generalize hAe : va_A (WL k oL fL h a c C n0 M ds n1 d) s.heap.size = A at hD hA9 ⊢
  have hA : ∀ q : Nat, s.heap.size ≤ q → A q := fun q h => by rw [← hAe]; exact Or.inr h
  have hS : va_S A s.heap s.heap [] := va_S.rf
  have hP2 : va_P G vwCl (W2 k h a c C n0 M ds n1 d) s.heap := yP_tl hP
  have hND2 : va_D (fun _ => True) (W2 k h a c C n0 M ds n1 d) := yD_tl hND
  have hl := lv_entry ([.ref h, .int q, .int pl, .ref oL]) (n := 5) (Nat.le_of_ble_eq_true rfl)
  rw [lg_entry_eq]
  generalize (lg_sl ([.ref h, .int q, .int pl, .ref oL]) ++ List.replicate (5 - (lg_sl ([.ref h, .int q, .int pl, .ref oL])).length) Slot.unset).toArray = ls at hl ⊢
  have hl : lv_has ls 5 [(0, .ref h), (1, .int q), (2, .int pl), (3, .ref oL)] := hl
  refine lv_aload_n hx hb dL_readyAtPlace_0 rfl (lv_at hl 3 rfl) ?_
  refine lv_iconst (v := 0) hx hb dL_readyAtPlace_1 (by decide) ?_
  refine lv_aload_n hx hb dL_readyAtPlace_2 rfl (lv_at hl 0 rfl) ?_
  refine lv_iload_n hx hb dL_readyAtPlace_3 rfl (lv_at hl 1 rfl) ?_
  refine lv_iload_n hx hb dL_readyAtPlace_4 rfl (lv_at hl 2 rfl) ?_
  refine y_hread (mk := Value.int) yQi (vx_runV (As := [.int q, .int pl]) (rest := [.int 0, .ref oL]) ⟨hx, hb, hml, hown, hts⟩ (c_X2_readyAtPlace l hl9 G k h a c C n0 M ds n1 d  q pl  hn1) (cwV 2 hts gL_readyAtPlace_X2_readyAtPlace rfl rfl rfl (by decide +kernel) ⟨Nat.le_of_ble_eq_true rfl, Nat.le_of_ble_eq_true rfl⟩) ⟨yE_blind, va_recv hK hP2 (ci := 4) (q0 := 0) rfl rfl, fun U hU hW => ⟨rfl, by rw [hU]; exact hP2, va_K.moved hW.alike hK, yEV_at hE hU hW⟩⟩ rfl rfl hl.1 rfl (lv_room (Nat.le_of_ble_eq_true rfl)) dL_readyAtPlace_5 ⟨Nat.le_of_ble_eq_true rfl, Nat.le_of_ble_eq_true rfl⟩) hS ?_ (fun r hp9 => ?_)
  · intro E ce q9 H1 locs1 hpx hk9 hS9 hce hcv hcl
    rcases hpx with ⟨rfl, hcd⟩ | ⟨rfl, hcd⟩
    · have hcd9 : ¬ (o_rapC q pl M n1 d).1 = 0 := by rw [hcd]; decide
      have hPf : va_P G vwCl (WL k oL fL h a c C n0 M ds n1 d) H1 := yKeep hP hk9
      refine vx_catch (own := RL) (name := "java/lang/IllegalArgumentException") (E := "java/lang/IllegalArgumentException") (ce := ce) hown [] (⟨0, 10, 13, 13⟩ : ExceptionTableEntry) [(⟨0, 10, 17, 39⟩ : ExceptionTableEntry)] (by rw [htab]; rfl) (fun z hz => nomatch hz) (by decide) (by decide) (hts (.classLink RL 13 "java/lang/IllegalArgumentException") (by decide +kernel)) (va_Nw.use rfl (hE.1 (.castable "java/lang/IllegalArgumentException" "java/lang/IllegalArgumentException") (by decide +kernel))) hce hcv hcl ?_
      refine lv_astore (lv' := [(4, .ref q9), (0, .ref h), (1, .int q), (2, .int pl), (3, .ref oL)]) hx hb dL_readyAtPlace_13 hl (by decide) rfl (fun ls hl => ?_)
      refine lv_iconst (v := 1) hx hb dL_readyAtPlace_15 (by decide) ?_
      exact W.iret (v := 1) hx hb hr (fun τ hτ hW => ⟨⟨_, fL, rfl, ⟨hcd.symm, fun h9 => absurd h9 hcd9⟩, yPt hPf hτ⟩, hS9.F hτ⟩) hS9.2.2 dL_readyAtPlace_16
    · have hcd9 : ¬ (o_rapC q pl M n1 d).1 = 0 := by rw [hcd]; decide
      have hPf : va_P G vwCl (WL k oL fL h a c C n0 M ds n1 d) H1 := yKeep hP hk9
      refine vx_catch (own := RL) (name := "java/util/NoSuchElementException") (E := "java/util/NoSuchElementException") (ce := ce) hown [(⟨0, 10, 13, 13⟩ : ExceptionTableEntry)] (⟨0, 10, 17, 39⟩ : ExceptionTableEntry) [] (by rw [htab]; rfl) (fun z hz => by rcases List.mem_singleton.mp hz with rfl; exact Or.inr ⟨by decide, "java/lang/IllegalArgumentException", hts (.classLink RL 13 "java/lang/IllegalArgumentException") (by decide +kernel), hNC ("java/util/NoSuchElementException", "java/lang/IllegalArgumentException") (by decide +kernel)⟩) (by decide) (by decide) (hts (.classLink RL 39 "java/util/NoSuchElementException") (by decide +kernel)) (va_Nw.use rfl (hE.1 (.castable "java/util/NoSuchElementException" "java/util/NoSuchElementException") (by decide +kernel))) hce hcv hcl ?_
      refine lv_astore (lv' := [(4, .ref q9), (0, .ref h), (1, .int q), (2, .int pl), (3, .ref oL)]) hx hb dL_readyAtPlace_17 hl (by decide) rfl (fun ls hl => ?_)
      refine lv_iconst (v := 2) hx hb dL_readyAtPlace_19 (by decide) ?_
      exact W.iret (v := 2) hx hb hr (fun τ hτ hW => ⟨⟨_, fL, rfl, ⟨hcd.symm, fun h9 => absurd h9 hcd9⟩, yPt hPf hτ⟩, hS9.F hτ⟩) hS9.2.2 dL_readyAtPlace_20
  · obtain ⟨hp8, hp9⟩ := hp9
    have hP9 := hP
    have hD9 := hD
    have hS9 := hS
    subst hp9
    refine lv_i2l (v := ((o_rapC q pl M n1 d).2).toInt64) hx hb dL_readyAtPlace_8 rfl ?_
    refine va_last hx hb hK hP9 hD9 hS9 0 3 rfl rfl (x := (((o_rapC q pl M n1 d).2).toInt64)) (vp_in_nI (n := 0) (N := 1) (by decide) (by decide)) dL_readyAtPlace_9 (fun H2 locs2 hP8 hD8 hS8 => ?_)
    have hPf : va_P G vwCl (WL k oL (vp_updL fL 0 (((o_rapC q pl M n1 d).2).toInt64)) h a c C n0 M ds n1 d) H2 := hP8
    refine lv_goto (tgt := 21) hx hb dL_readyAtPlace_10 (by decide) ?_
    refine lv_iconst (v := 0) hx hb dL_readyAtPlace_21 (by decide) ?_
    exact W.iret (v := 0) hx hb hr (fun τ hτ hW => ⟨⟨_, (vp_updL fL 0 (((o_rapC q pl M n1 d).2).toInt64)), rfl, ⟨hp8.symm, fun _ => by rfl⟩, yPt hPf hτ⟩, hS8.F hτ⟩) hS8.2.2 dL_readyAtPlace_22

set_option maxHeartbeats 4000000 in
set_option maxRecDepth 100000 in
theorem c_L_take (l : Launch) (hl9 : l.stackTraces = false) (G : va_G) (k : Nat → ClassId) (h : Nat) (a : Nat → Nat) (c : Nat → Nat) (C : Nat → Nat → Int32) (n0 : Nat) (M : Nat → Nat → Int32) (ds : Nat) (n1 : Nat) (d : Nat) (oL : Nat) (fL : Nat → Int64) (sz : Nat) (u q : Int32) (hND : va_D (fun _ => True) (WL k oL fL h a c C n0 M ds n1 d)) (hn1 : n1 ≤ 80) : Met l yL_take wsL_take ({ frames := 8, cells := 3, slots := 18, locals := 133 }) (va_Pc [.ref h, .int u, .int q, .ref oL] (yL G (yT k) (WL k oL fL h a c C n0 M ds n1 d) sz)) (va_Qi (fun (r : Int32) (f : Nat → Int64) => r = (o_takeC u q M n1 d).1 ∧ ((o_takeC u q M n1 d).1 = 0 → f 0 = ((o_takeC u q M n1 d).2.1).toInt64)) (fun f τ => va_P G vwCl (WL k oL f h a c C n0 ((o_takeC u q M n1 d).2.2) ds n1 d) τ.heap) (va_A (WL k oL fL h a c C n0 M ds n1 d) sz)) 3 18 (va_A (WL k oL fL h a c C n0 M ds n1 d) sz) := by
  refine va_MetW (cc := cL_take) (maxL := 5) (ret := (some .int)) (hh := [(0, 10, 13, 13), (0, 10, 17, 15), (0, 10, 21, 39)]) (by decide) rfl ?_
  intro p e s m args below meth c_ s₁ B hml hv
  obtain ⟨rfl, hsz, hP, hK, hE, hNC⟩ := hv
  have hE : yEV0 s s.heap := hE
  have hx := B.exec
  have hb := B.bytes
  have hr := B.returns
  have hts := atoms_spec (ws := wsL_take) B.pre
  have hown : s.vm.findClass RL = some m.cls := findClass_of_methodNamed B.named
  have hlocks := B.notSynchronized
  have htab : c_.exceptionTable.toList = tableOf [(0, 10, 13, 13), (0, 10, 17, 15), (0, 10, 21, 39)] := vx_table (x := yL_take) B (hts (.codeWith yL_take cL_take 5 (some .int) [(0, 10, 13, 13), (0, 10, 17, 15), (0, 10, 21, 39)]) List.mem_cons_self)
  subst hsz
  have hD := hND.self (sz := s.heap.size)
  have hA9 : ∀ q, va_A (W2 k h a c C n0 M ds n1 d) s.heap.size q → va_A (WL k oL fL h a c C n0 M ds n1 d) s.heap.size q := fun q h => yA_tl h
  generalize hAe : va_A (WL k oL fL h a c C n0 M ds n1 d) s.heap.size = A at hD hA9 ⊢
  have hA : ∀ q : Nat, s.heap.size ≤ q → A q := fun q h => by rw [← hAe]; exact Or.inr h
  have hS : va_S A s.heap s.heap [] := va_S.rf
  have hP2 : va_P G vwCl (W2 k h a c C n0 M ds n1 d) s.heap := yP_tl hP
  have hND2 : va_D (fun _ => True) (W2 k h a c C n0 M ds n1 d) := yD_tl hND
  have hl := lv_entry ([.ref h, .int u, .int q, .ref oL]) (n := 5) (Nat.le_of_ble_eq_true rfl)
  rw [lg_entry_eq]
  generalize (lg_sl ([.ref h, .int u, .int q, .ref oL]) ++ List.replicate (5 - (lg_sl ([.ref h, .int u, .int q, .ref oL])).length) Slot.unset).toArray = ls at hl ⊢
  have hl : lv_has ls 5 [(0, .ref h), (1, .int u), (2, .int q), (3, .ref oL)] := hl
  refine lv_aload_n hx hb dL_take_0 rfl (lv_at hl 3 rfl) ?_
  refine lv_iconst (v := 0) hx hb dL_take_1 (by decide) ?_
  refine lv_aload_n hx hb dL_take_2 rfl (lv_at hl 0 rfl) ?_
  refine lv_iload_n hx hb dL_take_3 rfl (lv_at hl 1 rfl) ?_
  refine lv_iload_n hx hb dL_take_4 rfl (lv_at hl 2 rfl) ?_
  refine y_hcall (vx_runV (As := [.int u, .int q]) (rest := [.int 0, .ref oL]) ⟨hx, hb, hml, hown, hts⟩ (c_X2_take l hl9 G k h a c C n0 M ds n1 d s.heap.size u q hND2 hn1) (cwV 2 hts gL_take_X2_take rfl rfl rfl (by decide +kernel) ⟨Nat.le_of_ble_eq_true rfl, Nat.le_of_ble_eq_true rfl⟩) ⟨yEs_blind, va_recv hK hP2 (ci := 4) (q0 := 0) rfl rfl, fun U hU hW => ⟨rfl, by rw [hU], by rw [hU]; exact hP2, va_K.moved hW.alike hK, yEV_at hE hU hW⟩⟩ rfl rfl hl.1 rfl (lv_room (Nat.le_of_ble_eq_true rfl)) dL_take_5 ⟨Nat.le_of_ble_eq_true rfl, Nat.le_of_ble_eq_true rfl⟩) hS (fun q _ h => hA9 q h) hA9 ?_ (fun r u9 t9 H1 locs1 ht9 hp9 hB9 hz9 hk9 hS9 => ?_)
  · intro E ce q9 H1 locs1 hpx hk9 hS9 hce hcv hcl
    rcases hpx with ⟨rfl, hcd⟩ | ⟨rfl, hcd⟩ | ⟨rfl, hcd⟩
    · have hcd9 : ¬ (o_takeC u q M n1 d).1 = 0 := by rw [hcd]; decide
      have hold := o_takeC_k hcd9
      have hPf : va_P G vwCl (WL k oL fL h a c C n0 ((o_takeC u q M n1 d).2.2) ds n1 d) H1 := by
        have h9 := yKeep hP hk9
        first | (rw [hold]; exact h9) | (simp only [hold]; exact h9)
      refine vx_catch (own := RL) (name := "java/lang/IllegalArgumentException") (E := "java/lang/IllegalArgumentException") (ce := ce) hown [] (⟨0, 10, 13, 13⟩ : ExceptionTableEntry) [(⟨0, 10, 17, 15⟩ : ExceptionTableEntry), (⟨0, 10, 21, 39⟩ : ExceptionTableEntry)] (by rw [htab]; rfl) (fun z hz => nomatch hz) (by decide) (by decide) (hts (.classLink RL 13 "java/lang/IllegalArgumentException") (by decide +kernel)) (va_Nw.use rfl (hE.1 (.castable "java/lang/IllegalArgumentException" "java/lang/IllegalArgumentException") (by decide +kernel))) hce hcv hcl ?_
      refine lv_astore (lv' := [(4, .ref q9), (0, .ref h), (1, .int u), (2, .int q), (3, .ref oL)]) hx hb dL_take_13 hl (by decide) rfl (fun ls hl => ?_)
      refine lv_iconst (v := 1) hx hb dL_take_15 (by decide) ?_
      exact W.iret (v := 1) hx hb hr (fun τ hτ hW => ⟨⟨_, fL, rfl, ⟨hcd.symm, fun h9 => absurd h9 hcd9⟩, yPt hPf hτ⟩, hS9.F hτ⟩) hS9.2.2 dL_take_16
    · have hcd9 : ¬ (o_takeC u q M n1 d).1 = 0 := by rw [hcd]; decide
      have hold := o_takeC_k hcd9
      have hPf : va_P G vwCl (WL k oL fL h a c C n0 ((o_takeC u q M n1 d).2.2) ds n1 d) H1 := by
        have h9 := yKeep hP hk9
        first | (rw [hold]; exact h9) | (simp only [hold]; exact h9)
      refine vx_catch (own := RL) (name := "java/lang/IllegalStateException") (E := "java/lang/IllegalStateException") (ce := ce) hown [(⟨0, 10, 13, 13⟩ : ExceptionTableEntry)] (⟨0, 10, 17, 15⟩ : ExceptionTableEntry) [(⟨0, 10, 21, 39⟩ : ExceptionTableEntry)] (by rw [htab]; rfl) (fun z hz => by rcases List.mem_singleton.mp hz with rfl; exact Or.inr ⟨by decide, "java/lang/IllegalArgumentException", hts (.classLink RL 13 "java/lang/IllegalArgumentException") (by decide +kernel), hNC ("java/lang/IllegalStateException", "java/lang/IllegalArgumentException") (by decide +kernel)⟩) (by decide) (by decide) (hts (.classLink RL 15 "java/lang/IllegalStateException") (by decide +kernel)) (va_Nw.use rfl (hE.1 (.castable "java/lang/IllegalStateException" "java/lang/IllegalStateException") (by decide +kernel))) hce hcv hcl ?_
      refine lv_astore (lv' := [(4, .ref q9), (0, .ref h), (1, .int u), (2, .int q), (3, .ref oL)]) hx hb dL_take_17 hl (by decide) rfl (fun ls hl => ?_)
      refine lv_iconst (v := 2) hx hb dL_take_19 (by decide) ?_
      exact W.iret (v := 2) hx hb hr (fun τ hτ hW => ⟨⟨_, fL, rfl, ⟨hcd.symm, fun h9 => absurd h9 hcd9⟩, yPt hPf hτ⟩, hS9.F hτ⟩) hS9.2.2 dL_take_20
    · have hcd9 : ¬ (o_takeC u q M n1 d).1 = 0 := by rw [hcd]; decide
      have hold := o_takeC_k hcd9
      have hPf : va_P G vwCl (WL k oL fL h a c C n0 ((o_takeC u q M n1 d).2.2) ds n1 d) H1 := by
        have h9 := yKeep hP hk9
        first | (rw [hold]; exact h9) | (simp only [hold]; exact h9)
      refine vx_catch (own := RL) (name := "java/util/NoSuchElementException") (E := "java/util/NoSuchElementException") (ce := ce) hown [(⟨0, 10, 13, 13⟩ : ExceptionTableEntry), (⟨0, 10, 17, 15⟩ : ExceptionTableEntry)] (⟨0, 10, 21, 39⟩ : ExceptionTableEntry) [] (by rw [htab]; rfl) (fun z hz => (List.mem_cons.mp hz).elim (fun h9 => by subst h9; exact Or.inr ⟨by decide, "java/lang/IllegalArgumentException", hts (.classLink RL 13 "java/lang/IllegalArgumentException") (by decide +kernel), hNC ("java/util/NoSuchElementException", "java/lang/IllegalArgumentException") (by decide +kernel)⟩) (fun h9 => by rcases List.mem_singleton.mp h9 with rfl; exact Or.inr ⟨by decide, "java/lang/IllegalStateException", hts (.classLink RL 15 "java/lang/IllegalStateException") (by decide +kernel), hNC ("java/util/NoSuchElementException", "java/lang/IllegalStateException") (by decide +kernel)⟩)) (by decide) (by decide) (hts (.classLink RL 39 "java/util/NoSuchElementException") (by decide +kernel)) (va_Nw.use rfl (hE.1 (.castable "java/util/NoSuchElementException" "java/util/NoSuchElementException") (by decide +kernel))) hce hcv hcl ?_
      refine lv_astore (lv' := [(4, .ref q9), (0, .ref h), (1, .int u), (2, .int q), (3, .ref oL)]) hx hb dL_take_21 hl (by decide) rfl (fun ls hl => ?_)
      refine lv_iconst (v := 3) hx hb dL_take_23 (by decide) ?_
      exact W.iret (v := 3) hx hb hr (fun τ hτ hW => ⟨⟨_, fL, rfl, ⟨hcd.symm, fun h9 => absurd h9 hcd9⟩, yPt hPf hτ⟩, hS9.F hτ⟩) hS9.2.2 dL_take_24
  · obtain ⟨hp8, hp9⟩ := hp9
    have hB9 : va_P G vwCl (W2 k h a c C n0 ((o_takeC u q M n1 d).2.2) ds n1 d) H1 := by rw [← ht9]; exact hB9
    have hP9 : va_P G vwCl (WL k oL fL h a c C n0 ((o_takeC u q M n1 d).2.2) ds n1 d) H1 := JL hP hD hk9 hB9
    have hD9 : va_D A (WL k oL fL h a c C n0 ((o_takeC u q M n1 d).2.2) ds n1 d) := yD hD rfl
    subst hp9
    refine lv_i2l (v := ((o_takeC u q M n1 d).2.1).toInt64) hx hb dL_take_8 rfl ?_
    refine va_last hx hb hK hP9 hD9 hS9 0 3 rfl rfl (x := (((o_takeC u q M n1 d).2.1).toInt64)) (vp_in_nI (n := 0) (N := 1) (by decide) (by decide)) dL_take_9 (fun H2 locs2 hP8 hD8 hS8 => ?_)
    have hPf : va_P G vwCl (WL k oL (vp_updL fL 0 (((o_takeC u q M n1 d).2.1).toInt64)) h a c C n0 ((o_takeC u q M n1 d).2.2) ds n1 d) H2 := hP8
    refine lv_goto (tgt := 25) hx hb dL_take_10 (by decide) ?_
    refine lv_iconst (v := 0) hx hb dL_take_25 (by decide) ?_
    exact W.iret (v := 0) hx hb hr (fun τ hτ hW => ⟨⟨_, (vp_updL fL 0 (((o_takeC u q M n1 d).2.1).toInt64)), rfl, ⟨hp8.symm, fun _ => by rfl⟩, yPt hPf hτ⟩, hS8.F hτ⟩) hS8.2.2 dL_take_26

set_option maxHeartbeats 4000000 in
set_option maxRecDepth 100000 in
theorem c_L_finish (l : Launch) (hl9 : l.stackTraces = false) (G : va_G) (k : Nat → ClassId) (h : Nat) (a : Nat → Nat) (c : Nat → Nat) (C : Nat → Nat → Int32) (n0 : Nat) (M : Nat → Nat → Int32) (ds : Nat) (n1 : Nat) (d : Nat) (oL : Nat) (fL : Nat → Int64) (sz : Nat) (x : Int32) (hND : va_D (fun _ => True) (WL k oL fL h a c C n0 M ds n1 d)) (hn : n0 ≤ 8) (hn1 : n1 ≤ 80) (hcs : ∀ z, z < n1 → M 5 z = 116 → ∃ q, q < n0 ∧ M 3 z = nI q) (hw : ∀ z, z < n0 → C 4 z = 0 ∨ C 4 z = 1) (hds : ∀ z, z < n1 → M 5 z = 116 → ds < 80) : Met l yL_finish wsL_finish ({ frames := 8, cells := 2, slots := 12, locals := 133 }) (va_Pc [.ref h, .int x, .ref oL] (yL G (yT k) (WL k oL fL h a c C n0 M ds n1 d) sz)) (va_Qi (fun (r : Int32) (f : Nat → Int64) => r = (o_finishC x C M ds n1).1 ∧ ((o_finishC x C M ds n1).1 = 0 → f 0 = (if (o_finishC x C M ds n1).2.1 = 0 then 0 else 1))) (fun f τ => va_P G vwCl (WL k oL f h a c ((o_finishC x C M ds n1).2.2.1) n0 ((o_finishC x C M ds n1).2.2.2.1) ((o_finishC x C M ds n1).2.2.2.2) n1 d) τ.heap) (va_A (WL k oL fL h a c C n0 M ds n1 d) sz)) 2 12 (va_A (WL k oL fL h a c C n0 M ds n1 d) sz) := by
  refine va_MetW (cc := cL_finish) (maxL := 4) (ret := (some .int)) (hh := [(0, 16, 19, 21), (0, 16, 22, 15)]) (by decide) rfl ?_
  intro p e s m args below meth c_ s₁ B hml hv
  obtain ⟨rfl, hsz, hP, hK, hE, hNC⟩ := hv
  have hE : yEV0 s s.heap := hE
  have hx := B.exec
  have hb := B.bytes
  have hr := B.returns
  have hts := atoms_spec (ws := wsL_finish) B.pre
  have hown : s.vm.findClass RL = some m.cls := findClass_of_methodNamed B.named
  have hlocks := B.notSynchronized
  have htab : c_.exceptionTable.toList = tableOf [(0, 16, 19, 21), (0, 16, 22, 15)] := vx_table (x := yL_finish) B (hts (.codeWith yL_finish cL_finish 4 (some .int) [(0, 16, 19, 21), (0, 16, 22, 15)]) List.mem_cons_self)
  subst hsz
  have hD := hND.self (sz := s.heap.size)
  have hA9 : ∀ q, va_A (W2 k h a c C n0 M ds n1 d) s.heap.size q → va_A (WL k oL fL h a c C n0 M ds n1 d) s.heap.size q := fun q h => yA_tl h
  generalize hAe : va_A (WL k oL fL h a c C n0 M ds n1 d) s.heap.size = A at hD hA9 ⊢
  have hA : ∀ q : Nat, s.heap.size ≤ q → A q := fun q h => by rw [← hAe]; exact Or.inr h
  have hS : va_S A s.heap s.heap [] := va_S.rf
  have hP2 : va_P G vwCl (W2 k h a c C n0 M ds n1 d) s.heap := yP_tl hP
  have hND2 : va_D (fun _ => True) (W2 k h a c C n0 M ds n1 d) := yD_tl hND
  have hl := lv_entry ([.ref h, .int x, .ref oL]) (n := 4) (Nat.le_of_ble_eq_true rfl)
  rw [lg_entry_eq]
  generalize (lg_sl ([.ref h, .int x, .ref oL]) ++ List.replicate (4 - (lg_sl ([.ref h, .int x, .ref oL])).length) Slot.unset).toArray = ls at hl ⊢
  have hl : lv_has ls 4 [(0, .ref h), (1, .int x), (2, .ref oL)] := hl
  refine lv_aload_n hx hb dL_finish_0 rfl (lv_at hl 2 rfl) ?_
  refine lv_iconst (v := 0) hx hb dL_finish_1 (by decide) ?_
  refine lv_aload_n hx hb dL_finish_2 rfl (lv_at hl 0 rfl) ?_
  refine lv_iload_n hx hb dL_finish_3 rfl (lv_at hl 1 rfl) ?_
  refine y_hcall (vx_runV (As := [.int x]) (rest := [.int 0, .ref oL]) ⟨hx, hb, hml, hown, hts⟩ (c_X2_finish l hl9 G k h a c C n0 M ds n1 d s.heap.size x hND2 hn hn1 hcs hw hds) (cwV 1 hts gL_finish_X2_finish rfl rfl rfl (by decide +kernel) ⟨Nat.le_of_ble_eq_true rfl, Nat.le_of_ble_eq_true rfl⟩) ⟨yEs_blind, va_recv hK hP2 (ci := 4) (q0 := 0) rfl rfl, fun U hU hW => ⟨rfl, by rw [hU], by rw [hU]; exact hP2, va_K.moved hW.alike hK, yEV_at hE hU hW⟩⟩ rfl rfl hl.1 rfl (lv_room (Nat.le_of_ble_eq_true rfl)) dL_finish_4 ⟨Nat.le_of_ble_eq_true rfl, Nat.le_of_ble_eq_true rfl⟩) hS (fun q _ h => hA9 q h) hA9 ?_ (fun r u9 t9 H1 locs1 ht9 hp9 hB9 hz9 hk9 hS9 => ?_)
  · intro E ce q9 H1 locs1 hpx hk9 hS9 hce hcv hcl
    rcases hpx with ⟨rfl, hcd⟩ | ⟨rfl, hcd⟩
    · have hcd9 : ¬ (o_finishC x C M ds n1).1 = 0 := by rw [hcd]; decide
      have hold := o_finishC_k hcd9
      have hPf : va_P G vwCl (WL k oL fL h a c ((o_finishC x C M ds n1).2.2.1) n0 ((o_finishC x C M ds n1).2.2.2.1) ((o_finishC x C M ds n1).2.2.2.2) n1 d) H1 := by
        have h9 := yKeep hP hk9
        first | (rw [hold]; exact h9) | (simp only [hold]; exact h9)
      refine vx_catch (own := RL) (name := "java/lang/IndexOutOfBoundsException") (E := "java/lang/IndexOutOfBoundsException") (ce := ce) hown [] (⟨0, 16, 19, 21⟩ : ExceptionTableEntry) [(⟨0, 16, 22, 15⟩ : ExceptionTableEntry)] (by rw [htab]; rfl) (fun z hz => nomatch hz) (by decide) (by decide) (hts (.classLink RL 21 "java/lang/IndexOutOfBoundsException") (by decide +kernel)) (va_Nw.use rfl (hE.1 (.castable "java/lang/IndexOutOfBoundsException" "java/lang/IndexOutOfBoundsException") (by decide +kernel))) hce hcv hcl ?_
      refine lv_astore_n (lv' := [(3, .ref q9), (0, .ref h), (1, .int x), (2, .ref oL)]) hx hb dL_finish_19 rfl hl (by decide) rfl (fun ls hl => ?_)
      refine lv_iconst (v := 1) hx hb dL_finish_20 (by decide) ?_
      exact W.iret (v := 1) hx hb hr (fun τ hτ hW => ⟨⟨_, fL, rfl, ⟨hcd.symm, fun h9 => absurd h9 hcd9⟩, yPt hPf hτ⟩, hS9.F hτ⟩) hS9.2.2 dL_finish_21
    · have hcd9 : ¬ (o_finishC x C M ds n1).1 = 0 := by rw [hcd]; decide
      have hold := o_finishC_k hcd9
      have hPf : va_P G vwCl (WL k oL fL h a c ((o_finishC x C M ds n1).2.2.1) n0 ((o_finishC x C M ds n1).2.2.2.1) ((o_finishC x C M ds n1).2.2.2.2) n1 d) H1 := by
        have h9 := yKeep hP hk9
        first | (rw [hold]; exact h9) | (simp only [hold]; exact h9)
      refine vx_catch (own := RL) (name := "java/lang/IllegalStateException") (E := "java/lang/IllegalStateException") (ce := ce) hown [(⟨0, 16, 19, 21⟩ : ExceptionTableEntry)] (⟨0, 16, 22, 15⟩ : ExceptionTableEntry) [] (by rw [htab]; rfl) (fun z hz => by rcases List.mem_singleton.mp hz with rfl; exact Or.inr ⟨by decide, "java/lang/IndexOutOfBoundsException", hts (.classLink RL 21 "java/lang/IndexOutOfBoundsException") (by decide +kernel), hNC ("java/lang/IllegalStateException", "java/lang/IndexOutOfBoundsException") (by decide +kernel)⟩) (by decide) (by decide) (hts (.classLink RL 15 "java/lang/IllegalStateException") (by decide +kernel)) (va_Nw.use rfl (hE.1 (.castable "java/lang/IllegalStateException" "java/lang/IllegalStateException") (by decide +kernel))) hce hcv hcl ?_
      refine lv_astore_n (lv' := [(3, .ref q9), (0, .ref h), (1, .int x), (2, .ref oL)]) hx hb dL_finish_22 rfl hl (by decide) rfl (fun ls hl => ?_)
      refine lv_iconst (v := 2) hx hb dL_finish_23 (by decide) ?_
      exact W.iret (v := 2) hx hb hr (fun τ hτ hW => ⟨⟨_, fL, rfl, ⟨hcd.symm, fun h9 => absurd h9 hcd9⟩, yPt hPf hτ⟩, hS9.F hτ⟩) hS9.2.2 dL_finish_24
  · obtain ⟨hp8, hp9⟩ := hp9
    have hB9 : va_P G vwCl (W2 k h a c ((o_finishC x C M ds n1).2.2.1) n0 ((o_finishC x C M ds n1).2.2.2.1) ((o_finishC x C M ds n1).2.2.2.2) n1 d) H1 := by rw [← ht9]; exact hB9
    have hP9 : va_P G vwCl (WL k oL fL h a c ((o_finishC x C M ds n1).2.2.1) n0 ((o_finishC x C M ds n1).2.2.2.1) ((o_finishC x C M ds n1).2.2.2.2) n1 d) H1 := JL hP hD hk9 hB9
    have hD9 : va_D A (WL k oL fL h a c ((o_finishC x C M ds n1).2.2.1) n0 ((o_finishC x C M ds n1).2.2.2.1) ((o_finishC x C M ds n1).2.2.2.2) n1 d) := yD hD rfl
    subst hp9
    refine lv_if_eq (tgt := 14) hx hb dL_finish_7 (by decide) (fun c9 => ?_) (fun c9 => ?_)
    · refine lv_lconst (v := 0) hx hb dL_finish_14 rfl ?_
      refine va_last hx hb hK hP9 hD9 hS9 0 3 rfl rfl (x := 0) (vp_in_nI (n := 0) (N := 1) (by decide) (by decide)) dL_finish_15 (fun H2 locs2 hP8 hD8 hS8 => ?_)
      have hPf : va_P G vwCl (WL k oL (vp_updL fL 0 0) h a c ((o_finishC x C M ds n1).2.2.1) n0 ((o_finishC x C M ds n1).2.2.2.1) ((o_finishC x C M ds n1).2.2.2.2) n1 d) H2 := hP8
      refine lv_goto (tgt := 25) hx hb dL_finish_16 (by decide) ?_
      refine lv_iconst (v := 0) hx hb dL_finish_25 (by decide) ?_
      exact W.iret (v := 0) hx hb hr (fun τ hτ hW => ⟨⟨_, (vp_updL fL 0 0), rfl, ⟨hp8.symm, fun _ => by rw [if_pos c9]; rfl⟩, yPt hPf hτ⟩, hS8.F hτ⟩) hS8.2.2 dL_finish_26
    · refine lv_lconst (v := 1) hx hb dL_finish_10 rfl ?_
      refine lv_goto (tgt := 15) hx hb dL_finish_11 (by decide) ?_
      refine va_last hx hb hK hP9 hD9 hS9 0 3 rfl rfl (x := 1) (vp_in_nI (n := 0) (N := 1) (by decide) (by decide)) dL_finish_15 (fun H2 locs2 hP8 hD8 hS8 => ?_)
      have hPf : va_P G vwCl (WL k oL (vp_updL fL 0 1) h a c ((o_finishC x C M ds n1).2.2.1) n0 ((o_finishC x C M ds n1).2.2.2.1) ((o_finishC x C M ds n1).2.2.2.2) n1 d) H2 := hP8
      refine lv_goto (tgt := 25) hx hb dL_finish_16 (by decide) ?_
      refine lv_iconst (v := 0) hx hb dL_finish_25 (by decide) ?_
      exact W.iret (v := 0) hx hb hr (fun τ hτ hW => ⟨⟨_, (vp_updL fL 0 1), rfl, ⟨hp8.symm, fun _ => by rw [if_neg c9]; rfl⟩, yPt hPf hτ⟩, hS8.F hτ⟩) hS8.2.2 dL_finish_26

set_option maxHeartbeats 4000000 in
set_option maxRecDepth 100000 in
theorem c_L_handBack (l : Launch) (hl9 : l.stackTraces = false) (G : va_G) (k : Nat → ClassId) (h : Nat) (a : Nat → Nat) (c : Nat → Nat) (C : Nat → Nat → Int32) (n0 : Nat) (M : Nat → Nat → Int32) (ds : Nat) (n1 : Nat) (d : Nat) (oL : Nat) (fL : Nat → Int64) (sz : Nat) (x : Int32) (hND : va_D (fun _ => True) (WL k oL fL h a c C n0 M ds n1 d)) (hn1 : n1 ≤ 80) : Met l yL_handBack wsL_handBack ({ frames := 8, cells := 2, slots := 12, locals := 133 }) (va_Pc [.ref h, .int x, .ref oL] (yL G (yT k) (WL k oL fL h a c C n0 M ds n1 d) sz)) (va_Qi (fun (r : Int32) (f : Nat → Int64) => r = (o_handBackC x M n1 d).1 ∧ ((o_handBackC x M n1 d).1 = 0 → f 0 = ((o_handBackC x M n1 d).2.1).toInt64)) (fun f τ => va_P G vwCl (WL k oL f h a c C n0 ((o_handBackC x M n1 d).2.2) ds n1 d) τ.heap) (va_A (WL k oL fL h a c C n0 M ds n1 d) sz)) 2 12 (va_A (WL k oL fL h a c C n0 M ds n1 d) sz) := by
  refine va_MetW (cc := cL_handBack) (maxL := 4) (ret := (some .int)) (hh := [(0, 9, 12, 21), (0, 9, 15, 15)]) (by decide) rfl ?_
  intro p e s m args below meth c_ s₁ B hml hv
  obtain ⟨rfl, hsz, hP, hK, hE, hNC⟩ := hv
  have hE : yEV0 s s.heap := hE
  have hx := B.exec
  have hb := B.bytes
  have hr := B.returns
  have hts := atoms_spec (ws := wsL_handBack) B.pre
  have hown : s.vm.findClass RL = some m.cls := findClass_of_methodNamed B.named
  have hlocks := B.notSynchronized
  have htab : c_.exceptionTable.toList = tableOf [(0, 9, 12, 21), (0, 9, 15, 15)] := vx_table (x := yL_handBack) B (hts (.codeWith yL_handBack cL_handBack 4 (some .int) [(0, 9, 12, 21), (0, 9, 15, 15)]) List.mem_cons_self)
  subst hsz
  have hD := hND.self (sz := s.heap.size)
  have hA9 : ∀ q, va_A (W2 k h a c C n0 M ds n1 d) s.heap.size q → va_A (WL k oL fL h a c C n0 M ds n1 d) s.heap.size q := fun q h => yA_tl h
  generalize hAe : va_A (WL k oL fL h a c C n0 M ds n1 d) s.heap.size = A at hD hA9 ⊢
  have hA : ∀ q : Nat, s.heap.size ≤ q → A q := fun q h => by rw [← hAe]; exact Or.inr h
  have hS : va_S A s.heap s.heap [] := va_S.rf
  have hP2 : va_P G vwCl (W2 k h a c C n0 M ds n1 d) s.heap := yP_tl hP
  have hND2 : va_D (fun _ => True) (W2 k h a c C n0 M ds n1 d) := yD_tl hND
  have hl := lv_entry ([.ref h, .int x, .ref oL]) (n := 4) (Nat.le_of_ble_eq_true rfl)
  rw [lg_entry_eq]
  generalize (lg_sl ([.ref h, .int x, .ref oL]) ++ List.replicate (4 - (lg_sl ([.ref h, .int x, .ref oL])).length) Slot.unset).toArray = ls at hl ⊢
  have hl : lv_has ls 4 [(0, .ref h), (1, .int x), (2, .ref oL)] := hl
  refine lv_aload_n hx hb dL_handBack_0 rfl (lv_at hl 2 rfl) ?_
  refine lv_iconst (v := 0) hx hb dL_handBack_1 (by decide) ?_
  refine lv_aload_n hx hb dL_handBack_2 rfl (lv_at hl 0 rfl) ?_
  refine lv_iload_n hx hb dL_handBack_3 rfl (lv_at hl 1 rfl) ?_
  refine y_hcall (vx_runV (As := [.int x]) (rest := [.int 0, .ref oL]) ⟨hx, hb, hml, hown, hts⟩ (c_X2_handBack l hl9 G k h a c C n0 M ds n1 d s.heap.size x hND2 hn1) (cwV 1 hts gL_handBack_X2_handBack rfl rfl rfl (by decide +kernel) ⟨Nat.le_of_ble_eq_true rfl, Nat.le_of_ble_eq_true rfl⟩) ⟨yEs_blind, va_recv hK hP2 (ci := 4) (q0 := 0) rfl rfl, fun U hU hW => ⟨rfl, by rw [hU], by rw [hU]; exact hP2, va_K.moved hW.alike hK, yEV_at hE hU hW⟩⟩ rfl rfl hl.1 rfl (lv_room (Nat.le_of_ble_eq_true rfl)) dL_handBack_4 ⟨Nat.le_of_ble_eq_true rfl, Nat.le_of_ble_eq_true rfl⟩) hS (fun q _ h => hA9 q h) hA9 ?_ (fun r u9 t9 H1 locs1 ht9 hp9 hB9 hz9 hk9 hS9 => ?_)
  · intro E ce q9 H1 locs1 hpx hk9 hS9 hce hcv hcl
    rcases hpx with ⟨rfl, hcd⟩ | ⟨rfl, hcd⟩
    · have hcd9 : ¬ (o_handBackC x M n1 d).1 = 0 := by rw [hcd]; decide
      have hold := o_handBackC_k hcd9
      have hPf : va_P G vwCl (WL k oL fL h a c C n0 ((o_handBackC x M n1 d).2.2) ds n1 d) H1 := by
        have h9 := yKeep hP hk9
        first | (rw [hold]; exact h9) | (simp only [hold]; exact h9)
      refine vx_catch (own := RL) (name := "java/lang/IndexOutOfBoundsException") (E := "java/lang/IndexOutOfBoundsException") (ce := ce) hown [] (⟨0, 9, 12, 21⟩ : ExceptionTableEntry) [(⟨0, 9, 15, 15⟩ : ExceptionTableEntry)] (by rw [htab]; rfl) (fun z hz => nomatch hz) (by decide) (by decide) (hts (.classLink RL 21 "java/lang/IndexOutOfBoundsException") (by decide +kernel)) (va_Nw.use rfl (hE.1 (.castable "java/lang/IndexOutOfBoundsException" "java/lang/IndexOutOfBoundsException") (by decide +kernel))) hce hcv hcl ?_
      refine lv_astore_n (lv' := [(3, .ref q9), (0, .ref h), (1, .int x), (2, .ref oL)]) hx hb dL_handBack_12 rfl hl (by decide) rfl (fun ls hl => ?_)
      refine lv_iconst (v := 1) hx hb dL_handBack_13 (by decide) ?_
      exact W.iret (v := 1) hx hb hr (fun τ hτ hW => ⟨⟨_, fL, rfl, ⟨hcd.symm, fun h9 => absurd h9 hcd9⟩, yPt hPf hτ⟩, hS9.F hτ⟩) hS9.2.2 dL_handBack_14
    · have hcd9 : ¬ (o_handBackC x M n1 d).1 = 0 := by rw [hcd]; decide
      have hold := o_handBackC_k hcd9
      have hPf : va_P G vwCl (WL k oL fL h a c C n0 ((o_handBackC x M n1 d).2.2) ds n1 d) H1 := by
        have h9 := yKeep hP hk9
        first | (rw [hold]; exact h9) | (simp only [hold]; exact h9)
      refine vx_catch (own := RL) (name := "java/lang/IllegalStateException") (E := "java/lang/IllegalStateException") (ce := ce) hown [(⟨0, 9, 12, 21⟩ : ExceptionTableEntry)] (⟨0, 9, 15, 15⟩ : ExceptionTableEntry) [] (by rw [htab]; rfl) (fun z hz => by rcases List.mem_singleton.mp hz with rfl; exact Or.inr ⟨by decide, "java/lang/IndexOutOfBoundsException", hts (.classLink RL 21 "java/lang/IndexOutOfBoundsException") (by decide +kernel), hNC ("java/lang/IllegalStateException", "java/lang/IndexOutOfBoundsException") (by decide +kernel)⟩) (by decide) (by decide) (hts (.classLink RL 15 "java/lang/IllegalStateException") (by decide +kernel)) (va_Nw.use rfl (hE.1 (.castable "java/lang/IllegalStateException" "java/lang/IllegalStateException") (by decide +kernel))) hce hcv hcl ?_
      refine lv_astore_n (lv' := [(3, .ref q9), (0, .ref h), (1, .int x), (2, .ref oL)]) hx hb dL_handBack_15 rfl hl (by decide) rfl (fun ls hl => ?_)
      refine lv_iconst (v := 2) hx hb dL_handBack_16 (by decide) ?_
      exact W.iret (v := 2) hx hb hr (fun τ hτ hW => ⟨⟨_, fL, rfl, ⟨hcd.symm, fun h9 => absurd h9 hcd9⟩, yPt hPf hτ⟩, hS9.F hτ⟩) hS9.2.2 dL_handBack_17
  · obtain ⟨hp8, hp9⟩ := hp9
    have hB9 : va_P G vwCl (W2 k h a c C n0 ((o_handBackC x M n1 d).2.2) ds n1 d) H1 := by rw [← ht9]; exact hB9
    have hP9 : va_P G vwCl (WL k oL fL h a c C n0 ((o_handBackC x M n1 d).2.2) ds n1 d) H1 := JL hP hD hk9 hB9
    have hD9 : va_D A (WL k oL fL h a c C n0 ((o_handBackC x M n1 d).2.2) ds n1 d) := yD hD rfl
    subst hp9
    refine lv_i2l (v := ((o_handBackC x M n1 d).2.1).toInt64) hx hb dL_handBack_7 rfl ?_
    refine va_last hx hb hK hP9 hD9 hS9 0 3 rfl rfl (x := (((o_handBackC x M n1 d).2.1).toInt64)) (vp_in_nI (n := 0) (N := 1) (by decide) (by decide)) dL_handBack_8 (fun H2 locs2 hP8 hD8 hS8 => ?_)
    have hPf : va_P G vwCl (WL k oL (vp_updL fL 0 (((o_handBackC x M n1 d).2.1).toInt64)) h a c C n0 ((o_handBackC x M n1 d).2.2) ds n1 d) H2 := hP8
    refine lv_goto (tgt := 18) hx hb dL_handBack_9 (by decide) ?_
    refine lv_iconst (v := 0) hx hb dL_handBack_18 (by decide) ?_
    exact W.iret (v := 0) hx hb hr (fun τ hτ hW => ⟨⟨_, (vp_updL fL 0 (((o_handBackC x M n1 d).2.1).toInt64)), rfl, ⟨hp8.symm, fun _ => by rfl⟩, yPt hPf hτ⟩, hS8.F hτ⟩) hS8.2.2 dL_handBack_19

set_option maxHeartbeats 4000000 in
set_option maxRecDepth 100000 in
theorem c_L_revive (l : Launch) (hl9 : l.stackTraces = false) (G : va_G) (k : Nat → ClassId) (h : Nat) (a : Nat → Nat) (c : Nat → Nat) (C : Nat → Nat → Int32) (n0 : Nat) (M : Nat → Nat → Int32) (ds : Nat) (n1 : Nat) (d : Nat) (oL : Nat) (fL : Nat → Int64) (sz : Nat) (x : Int32) (hND : va_D (fun _ => True) (WL k oL fL h a c C n0 M ds n1 d)) (hn1 : n1 ≤ 80) : Met l yL_revive wsL_revive ({ frames := 8, cells := 2, slots := 12, locals := 133 }) (va_Pc [.ref h, .int x, .ref oL] (yL G (yT k) (WL k oL fL h a c C n0 M ds n1 d) sz)) (va_Qi (fun (r : Int32) (f : Nat → Int64) => r = (o_revive x M n1 d).1 ∧ ((o_revive x M n1 d).1 = 0 → f 0 = ((o_revive x M n1 d).2.1).toInt64)) (fun f τ => va_P G vwCl (WL k oL f h a c C n0 ((o_revive x M n1 d).2.2) ds n1 d) τ.heap) (va_A (WL k oL fL h a c C n0 M ds n1 d) sz)) 2 12 (va_A (WL k oL fL h a c C n0 M ds n1 d) sz) := by
  refine va_MetW (cc := cL_revive) (maxL := 4) (ret := (some .int)) (hh := [(0, 9, 12, 21), (0, 9, 15, 15)]) (by decide) rfl ?_
  intro p e s m args below meth c_ s₁ B hml hv
  obtain ⟨rfl, hsz, hP, hK, hE, hNC⟩ := hv
  have hE : yEV0 s s.heap := hE
  have hx := B.exec
  have hb := B.bytes
  have hr := B.returns
  have hts := atoms_spec (ws := wsL_revive) B.pre
  have hown : s.vm.findClass RL = some m.cls := findClass_of_methodNamed B.named
  have hlocks := B.notSynchronized
  have htab : c_.exceptionTable.toList = tableOf [(0, 9, 12, 21), (0, 9, 15, 15)] := vx_table (x := yL_revive) B (hts (.codeWith yL_revive cL_revive 4 (some .int) [(0, 9, 12, 21), (0, 9, 15, 15)]) List.mem_cons_self)
  subst hsz
  have hD := hND.self (sz := s.heap.size)
  have hA9 : ∀ q, va_A (W2 k h a c C n0 M ds n1 d) s.heap.size q → va_A (WL k oL fL h a c C n0 M ds n1 d) s.heap.size q := fun q h => yA_tl h
  generalize hAe : va_A (WL k oL fL h a c C n0 M ds n1 d) s.heap.size = A at hD hA9 ⊢
  have hA : ∀ q : Nat, s.heap.size ≤ q → A q := fun q h => by rw [← hAe]; exact Or.inr h
  have hS : va_S A s.heap s.heap [] := va_S.rf
  have hP2 : va_P G vwCl (W2 k h a c C n0 M ds n1 d) s.heap := yP_tl hP
  have hND2 : va_D (fun _ => True) (W2 k h a c C n0 M ds n1 d) := yD_tl hND
  have hl := lv_entry ([.ref h, .int x, .ref oL]) (n := 4) (Nat.le_of_ble_eq_true rfl)
  rw [lg_entry_eq]
  generalize (lg_sl ([.ref h, .int x, .ref oL]) ++ List.replicate (4 - (lg_sl ([.ref h, .int x, .ref oL])).length) Slot.unset).toArray = ls at hl ⊢
  have hl : lv_has ls 4 [(0, .ref h), (1, .int x), (2, .ref oL)] := hl
  refine lv_aload_n hx hb dL_revive_0 rfl (lv_at hl 2 rfl) ?_
  refine lv_iconst (v := 0) hx hb dL_revive_1 (by decide) ?_
  refine lv_aload_n hx hb dL_revive_2 rfl (lv_at hl 0 rfl) ?_
  refine lv_iload_n hx hb dL_revive_3 rfl (lv_at hl 1 rfl) ?_
  refine y_hcall (vx_runV (As := [.int x]) (rest := [.int 0, .ref oL]) ⟨hx, hb, hml, hown, hts⟩ (c_X2_revive l hl9 G k h a c C n0 M ds n1 d s.heap.size x hND2 hn1) (cwV 1 hts gL_revive_X2_revive rfl rfl rfl (by decide +kernel) ⟨Nat.le_of_ble_eq_true rfl, Nat.le_of_ble_eq_true rfl⟩) ⟨yEs_blind, va_recv hK hP2 (ci := 4) (q0 := 0) rfl rfl, fun U hU hW => ⟨rfl, by rw [hU], by rw [hU]; exact hP2, va_K.moved hW.alike hK, yEV_at hE hU hW⟩⟩ rfl rfl hl.1 rfl (lv_room (Nat.le_of_ble_eq_true rfl)) dL_revive_4 ⟨Nat.le_of_ble_eq_true rfl, Nat.le_of_ble_eq_true rfl⟩) hS (fun q _ h => hA9 q h) hA9 ?_ (fun r u9 t9 H1 locs1 ht9 hp9 hB9 hz9 hk9 hS9 => ?_)
  · intro E ce q9 H1 locs1 hpx hk9 hS9 hce hcv hcl
    rcases hpx with ⟨rfl, hcd⟩ | ⟨rfl, hcd⟩
    · have hcd9 : ¬ (o_revive x M n1 d).1 = 0 := by rw [hcd]; decide
      have hold := o_revive_k hcd9
      have hPf : va_P G vwCl (WL k oL fL h a c C n0 ((o_revive x M n1 d).2.2) ds n1 d) H1 := by
        have h9 := yKeep hP hk9
        first | (rw [hold]; exact h9) | (simp only [hold]; exact h9)
      refine vx_catch (own := RL) (name := "java/lang/IndexOutOfBoundsException") (E := "java/lang/IndexOutOfBoundsException") (ce := ce) hown [] (⟨0, 9, 12, 21⟩ : ExceptionTableEntry) [(⟨0, 9, 15, 15⟩ : ExceptionTableEntry)] (by rw [htab]; rfl) (fun z hz => nomatch hz) (by decide) (by decide) (hts (.classLink RL 21 "java/lang/IndexOutOfBoundsException") (by decide +kernel)) (va_Nw.use rfl (hE.1 (.castable "java/lang/IndexOutOfBoundsException" "java/lang/IndexOutOfBoundsException") (by decide +kernel))) hce hcv hcl ?_
      refine lv_astore_n (lv' := [(3, .ref q9), (0, .ref h), (1, .int x), (2, .ref oL)]) hx hb dL_revive_12 rfl hl (by decide) rfl (fun ls hl => ?_)
      refine lv_iconst (v := 1) hx hb dL_revive_13 (by decide) ?_
      exact W.iret (v := 1) hx hb hr (fun τ hτ hW => ⟨⟨_, fL, rfl, ⟨hcd.symm, fun h9 => absurd h9 hcd9⟩, yPt hPf hτ⟩, hS9.F hτ⟩) hS9.2.2 dL_revive_14
    · have hcd9 : ¬ (o_revive x M n1 d).1 = 0 := by rw [hcd]; decide
      have hold := o_revive_k hcd9
      have hPf : va_P G vwCl (WL k oL fL h a c C n0 ((o_revive x M n1 d).2.2) ds n1 d) H1 := by
        have h9 := yKeep hP hk9
        first | (rw [hold]; exact h9) | (simp only [hold]; exact h9)
      refine vx_catch (own := RL) (name := "java/lang/IllegalStateException") (E := "java/lang/IllegalStateException") (ce := ce) hown [(⟨0, 9, 12, 21⟩ : ExceptionTableEntry)] (⟨0, 9, 15, 15⟩ : ExceptionTableEntry) [] (by rw [htab]; rfl) (fun z hz => by rcases List.mem_singleton.mp hz with rfl; exact Or.inr ⟨by decide, "java/lang/IndexOutOfBoundsException", hts (.classLink RL 21 "java/lang/IndexOutOfBoundsException") (by decide +kernel), hNC ("java/lang/IllegalStateException", "java/lang/IndexOutOfBoundsException") (by decide +kernel)⟩) (by decide) (by decide) (hts (.classLink RL 15 "java/lang/IllegalStateException") (by decide +kernel)) (va_Nw.use rfl (hE.1 (.castable "java/lang/IllegalStateException" "java/lang/IllegalStateException") (by decide +kernel))) hce hcv hcl ?_
      refine lv_astore_n (lv' := [(3, .ref q9), (0, .ref h), (1, .int x), (2, .ref oL)]) hx hb dL_revive_15 rfl hl (by decide) rfl (fun ls hl => ?_)
      refine lv_iconst (v := 2) hx hb dL_revive_16 (by decide) ?_
      exact W.iret (v := 2) hx hb hr (fun τ hτ hW => ⟨⟨_, fL, rfl, ⟨hcd.symm, fun h9 => absurd h9 hcd9⟩, yPt hPf hτ⟩, hS9.F hτ⟩) hS9.2.2 dL_revive_17
  · obtain ⟨hp8, hp9⟩ := hp9
    have hB9 : va_P G vwCl (W2 k h a c C n0 ((o_revive x M n1 d).2.2) ds n1 d) H1 := by rw [← ht9]; exact hB9
    have hP9 : va_P G vwCl (WL k oL fL h a c C n0 ((o_revive x M n1 d).2.2) ds n1 d) H1 := JL hP hD hk9 hB9
    have hD9 : va_D A (WL k oL fL h a c C n0 ((o_revive x M n1 d).2.2) ds n1 d) := yD hD rfl
    subst hp9
    refine lv_i2l (v := ((o_revive x M n1 d).2.1).toInt64) hx hb dL_revive_7 rfl ?_
    refine va_last hx hb hK hP9 hD9 hS9 0 3 rfl rfl (x := (((o_revive x M n1 d).2.1).toInt64)) (vp_in_nI (n := 0) (N := 1) (by decide) (by decide)) dL_revive_8 (fun H2 locs2 hP8 hD8 hS8 => ?_)
    have hPf : va_P G vwCl (WL k oL (vp_updL fL 0 (((o_revive x M n1 d).2.1).toInt64)) h a c C n0 ((o_revive x M n1 d).2.2) ds n1 d) H2 := hP8
    refine lv_goto (tgt := 18) hx hb dL_revive_9 (by decide) ?_
    refine lv_iconst (v := 0) hx hb dL_revive_18 (by decide) ?_
    exact W.iret (v := 0) hx hb hr (fun τ hτ hW => ⟨⟨_, (vp_updL fL 0 (((o_revive x M n1 d).2.1).toInt64)), rfl, ⟨hp8.symm, fun _ => by rfl⟩, yPt hPf hτ⟩, hS8.F hτ⟩) hS8.2.2 dL_revive_19

set_option maxHeartbeats 4000000 in
set_option maxRecDepth 100000 in
theorem c_L_clerk (l : Launch) (hl9 : l.stackTraces = false) (G : va_G) (k : Nat → ClassId) (h : Nat) (a : Nat → Nat) (c : Nat → Nat) (C : Nat → Nat → Int32) (n0 : Nat) (M : Nat → Nat → Int32) (ds : Nat) (n1 : Nat) (d : Nat) (oL : Nat) (fL : Nat → Int64) (sz : Nat) (x : Int32) (hND : va_D (fun _ => True) (WL k oL fL h a c C n0 M ds n1 d)) (hn1 : n1 ≤ 80) : Met l yL_clerk wsL_clerk ({ frames := 8, cells := 2, slots := 12, locals := 132 }) (va_Pc [.ref h, .int x, .ref oL] (yL G (yT k) (WL k oL fL h a c C n0 M ds n1 d) sz)) (va_Qi (fun (r : Int32) (f : Nat → Int64) => r = (o_rowIf 8 116 x M n1).1 ∧ ((o_rowIf 8 116 x M n1).1 = 0 → f 0 = ((o_rowIf 8 116 x M n1).2).toInt64)) (fun f τ => va_P G vwCl (WL k oL f h a c C n0 M ds n1 d) τ.heap) (va_A (WL k oL fL h a c C n0 M ds n1 d) sz)) 2 12 (va_A (WL k oL fL h a c C n0 M ds n1 d) sz) := by
  refine va_MetW (cc := cL_clerk) (maxL := 4) (ret := (some .int)) (hh := [(0, 9, 12, 21), (0, 9, 15, 39)]) (by decide) rfl ?_
  intro p e s m args below meth c_ s₁ B hml hv
  obtain ⟨rfl, hsz, hP, hK, hE, hNC⟩ := hv
  have hE : yEV0 s s.heap := hE
  have hx := B.exec
  have hb := B.bytes
  have hr := B.returns
  have hts := atoms_spec (ws := wsL_clerk) B.pre
  have hown : s.vm.findClass RL = some m.cls := findClass_of_methodNamed B.named
  have hlocks := B.notSynchronized
  have htab : c_.exceptionTable.toList = tableOf [(0, 9, 12, 21), (0, 9, 15, 39)] := vx_table (x := yL_clerk) B (hts (.codeWith yL_clerk cL_clerk 4 (some .int) [(0, 9, 12, 21), (0, 9, 15, 39)]) List.mem_cons_self)
  subst hsz
  have hD := hND.self (sz := s.heap.size)
  have hA9 : ∀ q, va_A (W2 k h a c C n0 M ds n1 d) s.heap.size q → va_A (WL k oL fL h a c C n0 M ds n1 d) s.heap.size q := fun q h => yA_tl h
  generalize hAe : va_A (WL k oL fL h a c C n0 M ds n1 d) s.heap.size = A at hD hA9 ⊢
  have hA : ∀ q : Nat, s.heap.size ≤ q → A q := fun q h => by rw [← hAe]; exact Or.inr h
  have hS : va_S A s.heap s.heap [] := va_S.rf
  have hP2 : va_P G vwCl (W2 k h a c C n0 M ds n1 d) s.heap := yP_tl hP
  have hND2 : va_D (fun _ => True) (W2 k h a c C n0 M ds n1 d) := yD_tl hND
  have hl := lv_entry ([.ref h, .int x, .ref oL]) (n := 4) (Nat.le_of_ble_eq_true rfl)
  rw [lg_entry_eq]
  generalize (lg_sl ([.ref h, .int x, .ref oL]) ++ List.replicate (4 - (lg_sl ([.ref h, .int x, .ref oL])).length) Slot.unset).toArray = ls at hl ⊢
  have hl : lv_has ls 4 [(0, .ref h), (1, .int x), (2, .ref oL)] := hl
  refine lv_aload_n hx hb dL_clerk_0 rfl (lv_at hl 2 rfl) ?_
  refine lv_iconst (v := 0) hx hb dL_clerk_1 (by decide) ?_
  refine lv_aload_n hx hb dL_clerk_2 rfl (lv_at hl 0 rfl) ?_
  refine lv_iload_n hx hb dL_clerk_3 rfl (lv_at hl 1 rfl) ?_
  refine y_hread (mk := Value.int) yQi (vx_runV (As := [.int x]) (rest := [.int 0, .ref oL]) ⟨hx, hb, hml, hown, hts⟩ (c_X2_clerk l hl9 G k h a c C n0 M ds n1 d  x  hn1) (cwV 1 hts gL_clerk_X2_clerk rfl rfl rfl (by decide +kernel) ⟨Nat.le_of_ble_eq_true rfl, Nat.le_of_ble_eq_true rfl⟩) ⟨yE_blind, va_recv hK hP2 (ci := 4) (q0 := 0) rfl rfl, fun U hU hW => ⟨rfl, by rw [hU]; exact hP2, va_K.moved hW.alike hK, yEV_at hE hU hW⟩⟩ rfl rfl hl.1 rfl (lv_room (Nat.le_of_ble_eq_true rfl)) dL_clerk_4 ⟨Nat.le_of_ble_eq_true rfl, Nat.le_of_ble_eq_true rfl⟩) hS ?_ (fun r hp9 => ?_)
  · intro E ce q9 H1 locs1 hpx hk9 hS9 hce hcv hcl
    rcases hpx with ⟨rfl, hcd⟩ | ⟨rfl, hcd⟩
    · have hcd9 : ¬ (o_rowIf 8 116 x M n1).1 = 0 := by rw [hcd]; decide
      have hPf : va_P G vwCl (WL k oL fL h a c C n0 M ds n1 d) H1 := yKeep hP hk9
      refine vx_catch (own := RL) (name := "java/lang/IndexOutOfBoundsException") (E := "java/lang/IndexOutOfBoundsException") (ce := ce) hown [] (⟨0, 9, 12, 21⟩ : ExceptionTableEntry) [(⟨0, 9, 15, 39⟩ : ExceptionTableEntry)] (by rw [htab]; rfl) (fun z hz => nomatch hz) (by decide) (by decide) (hts (.classLink RL 21 "java/lang/IndexOutOfBoundsException") (by decide +kernel)) (va_Nw.use rfl (hE.1 (.castable "java/lang/IndexOutOfBoundsException" "java/lang/IndexOutOfBoundsException") (by decide +kernel))) hce hcv hcl ?_
      refine lv_astore_n (lv' := [(3, .ref q9), (0, .ref h), (1, .int x), (2, .ref oL)]) hx hb dL_clerk_12 rfl hl (by decide) rfl (fun ls hl => ?_)
      refine lv_iconst (v := 1) hx hb dL_clerk_13 (by decide) ?_
      exact W.iret (v := 1) hx hb hr (fun τ hτ hW => ⟨⟨_, fL, rfl, ⟨hcd.symm, fun h9 => absurd h9 hcd9⟩, yPt hPf hτ⟩, hS9.F hτ⟩) hS9.2.2 dL_clerk_14
    · have hcd9 : ¬ (o_rowIf 8 116 x M n1).1 = 0 := by rw [hcd]; decide
      have hPf : va_P G vwCl (WL k oL fL h a c C n0 M ds n1 d) H1 := yKeep hP hk9
      refine vx_catch (own := RL) (name := "java/util/NoSuchElementException") (E := "java/util/NoSuchElementException") (ce := ce) hown [(⟨0, 9, 12, 21⟩ : ExceptionTableEntry)] (⟨0, 9, 15, 39⟩ : ExceptionTableEntry) [] (by rw [htab]; rfl) (fun z hz => by rcases List.mem_singleton.mp hz with rfl; exact Or.inr ⟨by decide, "java/lang/IndexOutOfBoundsException", hts (.classLink RL 21 "java/lang/IndexOutOfBoundsException") (by decide +kernel), hNC ("java/util/NoSuchElementException", "java/lang/IndexOutOfBoundsException") (by decide +kernel)⟩) (by decide) (by decide) (hts (.classLink RL 39 "java/util/NoSuchElementException") (by decide +kernel)) (va_Nw.use rfl (hE.1 (.castable "java/util/NoSuchElementException" "java/util/NoSuchElementException") (by decide +kernel))) hce hcv hcl ?_
      refine lv_astore_n (lv' := [(3, .ref q9), (0, .ref h), (1, .int x), (2, .ref oL)]) hx hb dL_clerk_15 rfl hl (by decide) rfl (fun ls hl => ?_)
      refine lv_iconst (v := 2) hx hb dL_clerk_16 (by decide) ?_
      exact W.iret (v := 2) hx hb hr (fun τ hτ hW => ⟨⟨_, fL, rfl, ⟨hcd.symm, fun h9 => absurd h9 hcd9⟩, yPt hPf hτ⟩, hS9.F hτ⟩) hS9.2.2 dL_clerk_17
  · obtain ⟨hp8, hp9⟩ := hp9
    have hP9 := hP
    have hD9 := hD
    have hS9 := hS
    subst hp9
    refine lv_i2l (v := ((o_rowIf 8 116 x M n1).2).toInt64) hx hb dL_clerk_7 rfl ?_
    refine va_last hx hb hK hP9 hD9 hS9 0 3 rfl rfl (x := (((o_rowIf 8 116 x M n1).2).toInt64)) (vp_in_nI (n := 0) (N := 1) (by decide) (by decide)) dL_clerk_8 (fun H2 locs2 hP8 hD8 hS8 => ?_)
    have hPf : va_P G vwCl (WL k oL (vp_updL fL 0 (((o_rowIf 8 116 x M n1).2).toInt64)) h a c C n0 M ds n1 d) H2 := hP8
    refine lv_goto (tgt := 18) hx hb dL_clerk_9 (by decide) ?_
    refine lv_iconst (v := 0) hx hb dL_clerk_18 (by decide) ?_
    exact W.iret (v := 0) hx hb hr (fun τ hτ hW => ⟨⟨_, (vp_updL fL 0 (((o_rowIf 8 116 x M n1).2).toInt64)), rfl, ⟨hp8.symm, fun _ => by rfl⟩, yPt hPf hτ⟩, hS8.F hτ⟩) hS8.2.2 dL_clerk_19

set_option maxHeartbeats 4000000 in
set_option maxRecDepth 100000 in
theorem c_L_has (l : Launch) (hl9 : l.stackTraces = false) (G : va_G) (k : Nat → ClassId) (h : Nat) (a : Nat → Nat) (c : Nat → Nat) (C : Nat → Nat → Int32) (n0 : Nat) (M : Nat → Nat → Int32) (ds : Nat) (n1 : Nat) (d : Nat) (oL : Nat) (fL : Nat → Int64) (sz : Nat) (u : Int32) (hND : va_D (fun _ => True) (WL k oL fL h a c C n0 M ds n1 d)) (hn1 : n1 ≤ 80) : Met l yL_has wsL_has ({ frames := 8, cells := 1, slots := 6, locals := 131 }) (va_Pc [.ref h, .int u, .ref oL] (yL G (yT k) (WL k oL fL h a c C n0 M ds n1 d) sz)) (va_Qi (fun (r : Int32) (f : Nat → Int64) => r = (o_has u M n1).1 ∧ ((o_has u M n1).1 = 0 → f 0 = ((o_has u M n1).2).toInt64)) (fun f τ => va_P G vwCl (WL k oL f h a c C n0 M ds n1 d) τ.heap) (va_A (WL k oL fL h a c C n0 M ds n1 d) sz)) 1 6 (va_A (WL k oL fL h a c C n0 M ds n1 d) sz) := by
  refine va_MetW (cc := cL_has) (maxL := 4) (ret := (some .int)) (hh := [(0, 9, 12, 13)]) (by decide) rfl ?_
  intro p e s m args below meth c_ s₁ B hml hv
  obtain ⟨rfl, hsz, hP, hK, hE, hNC⟩ := hv
  have hE : yEV0 s s.heap := hE
  have hx := B.exec
  have hb := B.bytes
  have hr := B.returns
  have hts := atoms_spec (ws := wsL_has) B.pre
  have hown : s.vm.findClass RL = some m.cls := findClass_of_methodNamed B.named
  have hlocks := B.notSynchronized
  have htab : c_.exceptionTable.toList = tableOf [(0, 9, 12, 13)] := vx_table (x := yL_has) B (hts (.codeWith yL_has cL_has 4 (some .int) [(0, 9, 12, 13)]) List.mem_cons_self)
  subst hsz
  have hD := hND.self (sz := s.heap.size)
  have hA9 : ∀ q, va_A (W2 k h a c C n0 M ds n1 d) s.heap.size q → va_A (WL k oL fL h a c C n0 M ds n1 d) s.heap.size q := fun q h => yA_tl h
  generalize hAe : va_A (WL k oL fL h a c C n0 M ds n1 d) s.heap.size = A at hD hA9 ⊢
  have hA : ∀ q : Nat, s.heap.size ≤ q → A q := fun q h => by rw [← hAe]; exact Or.inr h
  have hS : va_S A s.heap s.heap [] := va_S.rf
  have hP2 : va_P G vwCl (W2 k h a c C n0 M ds n1 d) s.heap := yP_tl hP
  have hND2 : va_D (fun _ => True) (W2 k h a c C n0 M ds n1 d) := yD_tl hND
  have hl := lv_entry ([.ref h, .int u, .ref oL]) (n := 4) (Nat.le_of_ble_eq_true rfl)
  rw [lg_entry_eq]
  generalize (lg_sl ([.ref h, .int u, .ref oL]) ++ List.replicate (4 - (lg_sl ([.ref h, .int u, .ref oL])).length) Slot.unset).toArray = ls at hl ⊢
  have hl : lv_has ls 4 [(0, .ref h), (1, .int u), (2, .ref oL)] := hl
  refine lv_aload_n hx hb dL_has_0 rfl (lv_at hl 2 rfl) ?_
  refine lv_iconst (v := 0) hx hb dL_has_1 (by decide) ?_
  refine lv_aload_n hx hb dL_has_2 rfl (lv_at hl 0 rfl) ?_
  refine lv_iload_n hx hb dL_has_3 rfl (lv_at hl 1 rfl) ?_
  refine y_hread (mk := Value.int) yQi (vx_runV (As := [.int u]) (rest := [.int 0, .ref oL]) ⟨hx, hb, hml, hown, hts⟩ (c_X2_has l hl9 G k h a c C n0 M ds n1 d  u  hn1) (cwV 1 hts gL_has_X2_has rfl rfl rfl (by decide +kernel) ⟨Nat.le_of_ble_eq_true rfl, Nat.le_of_ble_eq_true rfl⟩) ⟨yE_blind, va_recv hK hP2 (ci := 4) (q0 := 0) rfl rfl, fun U hU hW => ⟨rfl, by rw [hU]; exact hP2, va_K.moved hW.alike hK, yEV_at hE hU hW⟩⟩ rfl rfl hl.1 rfl (lv_room (Nat.le_of_ble_eq_true rfl)) dL_has_4 ⟨Nat.le_of_ble_eq_true rfl, Nat.le_of_ble_eq_true rfl⟩) hS ?_ (fun r hp9 => ?_)
  · intro E ce q9 H1 locs1 hpx hk9 hS9 hce hcv hcl
    rcases hpx with ⟨rfl, hcd⟩
    · have hcd9 : ¬ (o_has u M n1).1 = 0 := by rw [hcd]; decide
      have hPf : va_P G vwCl (WL k oL fL h a c C n0 M ds n1 d) H1 := yKeep hP hk9
      refine vx_catch (own := RL) (name := "java/lang/IllegalArgumentException") (E := "java/lang/IllegalArgumentException") (ce := ce) hown [] (⟨0, 9, 12, 13⟩ : ExceptionTableEntry) [] (by rw [htab]; rfl) (fun z hz => nomatch hz) (by decide) (by decide) (hts (.classLink RL 13 "java/lang/IllegalArgumentException") (by decide +kernel)) (va_Nw.use rfl (hE.1 (.castable "java/lang/IllegalArgumentException" "java/lang/IllegalArgumentException") (by decide +kernel))) hce hcv hcl ?_
      refine lv_astore_n (lv' := [(3, .ref q9), (0, .ref h), (1, .int u), (2, .ref oL)]) hx hb dL_has_12 rfl hl (by decide) rfl (fun ls hl => ?_)
      refine lv_iconst (v := 1) hx hb dL_has_13 (by decide) ?_
      exact W.iret (v := 1) hx hb hr (fun τ hτ hW => ⟨⟨_, fL, rfl, ⟨hcd.symm, fun h9 => absurd h9 hcd9⟩, yPt hPf hτ⟩, hS9.F hτ⟩) hS9.2.2 dL_has_14
  · obtain ⟨hp8, hp9⟩ := hp9
    have hP9 := hP
    have hD9 := hD
    have hS9 := hS
    subst hp9
    refine lv_i2l (v := ((o_has u M n1).2).toInt64) hx hb dL_has_7 rfl ?_
    refine va_last hx hb hK hP9 hD9 hS9 0 3 rfl rfl (x := (((o_has u M n1).2).toInt64)) (vp_in_nI (n := 0) (N := 1) (by decide) (by decide)) dL_has_8 (fun H2 locs2 hP8 hD8 hS8 => ?_)
    have hPf : va_P G vwCl (WL k oL (vp_updL fL 0 (((o_has u M n1).2).toInt64)) h a c C n0 M ds n1 d) H2 := hP8
    refine lv_goto (tgt := 15) hx hb dL_has_9 (by decide) ?_
    refine lv_iconst (v := 0) hx hb dL_has_15 (by decide) ?_
    exact W.iret (v := 0) hx hb hr (fun τ hτ hW => ⟨⟨_, (vp_updL fL 0 (((o_has u M n1).2).toInt64)), rfl, ⟨hp8.symm, fun _ => by rfl⟩, yPt hPf hτ⟩, hS8.F hτ⟩) hS8.2.2 dL_has_16

set_option maxHeartbeats 4000000 in
set_option maxRecDepth 100000 in
theorem c_L_pass (l : Launch) (hl9 : l.stackTraces = false) (G : va_G) (k : Nat → ClassId) (h : Nat) (a : Nat → Nat) (c : Nat → Nat) (C : Nat → Nat → Int32) (n0 : Nat) (M : Nat → Nat → Int32) (ds : Nat) (n1 : Nat) (d : Nat) (oL : Nat) (fL : Nat → Int64) (sz : Nat) (dd : Int32) (hND : va_D (fun _ => True) (WL k oL fL h a c C n0 M ds n1 d)) (hn : n0 ≤ 8) (hn1 : n1 ≤ 80) : Met l yL_pass wsL_pass ({ frames := 7, cells := 1, slots := 6, locals := 113 }) (va_Pc [.ref h, .int dd, .ref oL] (yL G (yT k) (WL k oL fL h a c C n0 M ds n1 d) sz)) (va_Qi (fun (r : Int32) (f : Nat → Int64) => r = (o_passC dd C n0 M n1 d).1 ∧ ((o_passC dd C n0 M n1 d).1 = 0 → f 0 = (nI (o_passC dd C n0 M n1 d).2.1.1).toInt64)) (fun f τ => va_P G vwCl (WL k oL f h a c C n0 ((o_passC dd C n0 M n1 d).2.1.2.1) ds ((o_passC dd C n0 M n1 d).2.1.2.2) ((o_passC dd C n0 M n1 d).2.2)) τ.heap) (va_A (WL k oL fL h a c C n0 M ds n1 d) sz)) 1 6 (va_A (WL k oL fL h a c C n0 M ds n1 d) sz) := by
  refine va_MetW (cc := cL_pass) (maxL := 4) (ret := (some .int)) (hh := [(0, 9, 12, 13)]) (by decide) rfl ?_
  intro p e s m args below meth c_ s₁ B hml hv
  obtain ⟨rfl, hsz, hP, hK, hE, hNC⟩ := hv
  have hE : yEV0 s s.heap := hE
  have hx := B.exec
  have hb := B.bytes
  have hr := B.returns
  have hts := atoms_spec (ws := wsL_pass) B.pre
  have hown : s.vm.findClass RL = some m.cls := findClass_of_methodNamed B.named
  have hlocks := B.notSynchronized
  have htab : c_.exceptionTable.toList = tableOf [(0, 9, 12, 13)] := vx_table (x := yL_pass) B (hts (.codeWith yL_pass cL_pass 4 (some .int) [(0, 9, 12, 13)]) List.mem_cons_self)
  subst hsz
  have hD := hND.self (sz := s.heap.size)
  have hA9 : ∀ q, va_A (W2 k h a c C n0 M ds n1 d) s.heap.size q → va_A (WL k oL fL h a c C n0 M ds n1 d) s.heap.size q := fun q h => yA_tl h
  generalize hAe : va_A (WL k oL fL h a c C n0 M ds n1 d) s.heap.size = A at hD hA9 ⊢
  have hA : ∀ q : Nat, s.heap.size ≤ q → A q := fun q h => by rw [← hAe]; exact Or.inr h
  have hS : va_S A s.heap s.heap [] := va_S.rf
  have hP2 : va_P G vwCl (W2 k h a c C n0 M ds n1 d) s.heap := yP_tl hP
  have hND2 : va_D (fun _ => True) (W2 k h a c C n0 M ds n1 d) := yD_tl hND
  have hl := lv_entry ([.ref h, .int dd, .ref oL]) (n := 4) (Nat.le_of_ble_eq_true rfl)
  rw [lg_entry_eq]
  generalize (lg_sl ([.ref h, .int dd, .ref oL]) ++ List.replicate (4 - (lg_sl ([.ref h, .int dd, .ref oL])).length) Slot.unset).toArray = ls at hl ⊢
  have hl : lv_has ls 4 [(0, .ref h), (1, .int dd), (2, .ref oL)] := hl
  refine lv_aload_n hx hb dL_pass_0 rfl (lv_at hl 2 rfl) ?_
  refine lv_iconst (v := 0) hx hb dL_pass_1 (by decide) ?_
  refine lv_aload_n hx hb dL_pass_2 rfl (lv_at hl 0 rfl) ?_
  refine lv_iload_n hx hb dL_pass_3 rfl (lv_at hl 1 rfl) ?_
  refine y_hcall (vx_runV (As := [.int dd]) (rest := [.int 0, .ref oL]) ⟨hx, hb, hml, hown, hts⟩ (c_X2_pass l hl9 G k h a c C n0 M ds n1 d s.heap.size dd hND2 hn hn1) (cwV 1 hts gL_pass_X2_pass rfl rfl rfl (by decide +kernel) ⟨Nat.le_of_ble_eq_true rfl, Nat.le_of_ble_eq_true rfl⟩) ⟨yEs_blind, va_recv hK hP2 (ci := 4) (q0 := 0) rfl rfl, fun U hU hW => ⟨rfl, by rw [hU], by rw [hU]; exact hP2, va_K.moved hW.alike hK, yEV_at hE hU hW⟩⟩ rfl rfl hl.1 rfl (lv_room (Nat.le_of_ble_eq_true rfl)) dL_pass_4 ⟨Nat.le_of_ble_eq_true rfl, Nat.le_of_ble_eq_true rfl⟩) hS (fun q _ h => hA9 q h) hA9 ?_ (fun r u9 t9 H1 locs1 ht9 hp9 hB9 hz9 hk9 hS9 => ?_)
  · intro E ce q9 H1 locs1 hpx hk9 hS9 hce hcv hcl
    rcases hpx with ⟨rfl, hcd⟩
    · have hcd9 : ¬ (o_passC dd C n0 M n1 d).1 = 0 := by rw [hcd]; decide
      have hold := o_passC_k hcd9
      have hPf : va_P G vwCl (WL k oL fL h a c C n0 ((o_passC dd C n0 M n1 d).2.1.2.1) ds ((o_passC dd C n0 M n1 d).2.1.2.2) ((o_passC dd C n0 M n1 d).2.2)) H1 := by
        have h9 := yKeep hP hk9
        first | (rw [hold]; exact h9) | (simp only [hold]; exact h9)
      refine vx_catch (own := RL) (name := "java/lang/IllegalArgumentException") (E := "java/lang/IllegalArgumentException") (ce := ce) hown [] (⟨0, 9, 12, 13⟩ : ExceptionTableEntry) [] (by rw [htab]; rfl) (fun z hz => nomatch hz) (by decide) (by decide) (hts (.classLink RL 13 "java/lang/IllegalArgumentException") (by decide +kernel)) (va_Nw.use rfl (hE.1 (.castable "java/lang/IllegalArgumentException" "java/lang/IllegalArgumentException") (by decide +kernel))) hce hcv hcl ?_
      refine lv_astore_n (lv' := [(3, .ref q9), (0, .ref h), (1, .int dd), (2, .ref oL)]) hx hb dL_pass_12 rfl hl (by decide) rfl (fun ls hl => ?_)
      refine lv_iconst (v := 1) hx hb dL_pass_13 (by decide) ?_
      exact W.iret (v := 1) hx hb hr (fun τ hτ hW => ⟨⟨_, fL, rfl, ⟨hcd.symm, fun h9 => absurd h9 hcd9⟩, yPt hPf hτ⟩, hS9.F hτ⟩) hS9.2.2 dL_pass_14
  · obtain ⟨hp8, hp9⟩ := hp9
    have hB9 : va_P G vwCl (W2 k h a c C n0 ((o_passC dd C n0 M n1 d).2.1.2.1) ds ((o_passC dd C n0 M n1 d).2.1.2.2) ((o_passC dd C n0 M n1 d).2.2)) H1 := by rw [← ht9]; exact hB9
    have hP9 : va_P G vwCl (WL k oL fL h a c C n0 ((o_passC dd C n0 M n1 d).2.1.2.1) ds ((o_passC dd C n0 M n1 d).2.1.2.2) ((o_passC dd C n0 M n1 d).2.2)) H1 := JL hP hD hk9 hB9
    have hD9 : va_D A (WL k oL fL h a c C n0 ((o_passC dd C n0 M n1 d).2.1.2.1) ds ((o_passC dd C n0 M n1 d).2.1.2.2) ((o_passC dd C n0 M n1 d).2.2)) := yD hD rfl
    subst hp9
    refine lv_i2l (v := (nI (o_passC dd C n0 M n1 d).2.1.1).toInt64) hx hb dL_pass_7 rfl ?_
    refine va_last hx hb hK hP9 hD9 hS9 0 3 rfl rfl (x := ((nI (o_passC dd C n0 M n1 d).2.1.1).toInt64)) (vp_in_nI (n := 0) (N := 1) (by decide) (by decide)) dL_pass_8 (fun H2 locs2 hP8 hD8 hS8 => ?_)
    have hPf : va_P G vwCl (WL k oL (vp_updL fL 0 ((nI (o_passC dd C n0 M n1 d).2.1.1).toInt64)) h a c C n0 ((o_passC dd C n0 M n1 d).2.1.2.1) ds ((o_passC dd C n0 M n1 d).2.1.2.2) ((o_passC dd C n0 M n1 d).2.2)) H2 := hP8
    refine lv_goto (tgt := 15) hx hb dL_pass_9 (by decide) ?_
    refine lv_iconst (v := 0) hx hb dL_pass_15 (by decide) ?_
    exact W.iret (v := 0) hx hb hr (fun τ hτ hW => ⟨⟨_, (vp_updL fL 0 ((nI (o_passC dd C n0 M n1 d).2.1.1).toInt64)), rfl, ⟨hp8.symm, fun _ => by rfl⟩, yPt hPf hτ⟩, hS8.F hτ⟩) hS8.2.2 dL_pass_16

set_option maxHeartbeats 4000000 in
set_option maxRecDepth 100000 in
theorem c_L_count (l : Launch) (hl9 : l.stackTraces = false) (G : va_G) (k : Nat → ClassId) (h : Nat) (a : Nat → Nat) (c : Nat → Nat) (C : Nat → Nat → Int32) (n0 : Nat) (M : Nat → Nat → Int32) (ds : Nat) (n1 : Nat) (d : Nat) (oL : Nat) (fL : Nat → Int64) (sz : Nat) (w : Int32) (hND : va_D (fun _ => True) (WL k oL fL h a c C n0 M ds n1 d)) (hn1 : n1 ≤ 80) : Met l yL_count wsL_count ({ frames := 7, cells := 1, slots := 6, locals := 111 }) (va_Pc [.ref h, .int w, .ref oL] (yL G (yT k) (WL k oL fL h a c C n0 M ds n1 d) sz)) (va_Qi (fun (r : Int32) (f : Nat → Int64) => r = (o_count w M n1).1 ∧ ((o_count w M n1).1 = 0 → f 0 = ((o_count w M n1).2).toInt64)) (fun f τ => va_P G vwCl (WL k oL f h a c C n0 M ds n1 d) τ.heap) (va_A (WL k oL fL h a c C n0 M ds n1 d) sz)) 1 6 (va_A (WL k oL fL h a c C n0 M ds n1 d) sz) := by
  refine va_MetW (cc := cL_count) (maxL := 4) (ret := (some .int)) (hh := [(0, 9, 12, 13)]) (by decide) rfl ?_
  intro p e s m args below meth c_ s₁ B hml hv
  obtain ⟨rfl, hsz, hP, hK, hE, hNC⟩ := hv
  have hE : yEV0 s s.heap := hE
  have hx := B.exec
  have hb := B.bytes
  have hr := B.returns
  have hts := atoms_spec (ws := wsL_count) B.pre
  have hown : s.vm.findClass RL = some m.cls := findClass_of_methodNamed B.named
  have hlocks := B.notSynchronized
  have htab : c_.exceptionTable.toList = tableOf [(0, 9, 12, 13)] := vx_table (x := yL_count) B (hts (.codeWith yL_count cL_count 4 (some .int) [(0, 9, 12, 13)]) List.mem_cons_self)
  subst hsz
  have hD := hND.self (sz := s.heap.size)
  have hA9 : ∀ q, va_A (W2 k h a c C n0 M ds n1 d) s.heap.size q → va_A (WL k oL fL h a c C n0 M ds n1 d) s.heap.size q := fun q h => yA_tl h
  generalize hAe : va_A (WL k oL fL h a c C n0 M ds n1 d) s.heap.size = A at hD hA9 ⊢
  have hA : ∀ q : Nat, s.heap.size ≤ q → A q := fun q h => by rw [← hAe]; exact Or.inr h
  have hS : va_S A s.heap s.heap [] := va_S.rf
  have hP2 : va_P G vwCl (W2 k h a c C n0 M ds n1 d) s.heap := yP_tl hP
  have hND2 : va_D (fun _ => True) (W2 k h a c C n0 M ds n1 d) := yD_tl hND
  have hl := lv_entry ([.ref h, .int w, .ref oL]) (n := 4) (Nat.le_of_ble_eq_true rfl)
  rw [lg_entry_eq]
  generalize (lg_sl ([.ref h, .int w, .ref oL]) ++ List.replicate (4 - (lg_sl ([.ref h, .int w, .ref oL])).length) Slot.unset).toArray = ls at hl ⊢
  have hl : lv_has ls 4 [(0, .ref h), (1, .int w), (2, .ref oL)] := hl
  refine lv_aload_n hx hb dL_count_0 rfl (lv_at hl 2 rfl) ?_
  refine lv_iconst (v := 0) hx hb dL_count_1 (by decide) ?_
  refine lv_aload_n hx hb dL_count_2 rfl (lv_at hl 0 rfl) ?_
  refine lv_iload_n hx hb dL_count_3 rfl (lv_at hl 1 rfl) ?_
  refine y_hread (mk := Value.int) yQi (vx_runV (As := [.int w]) (rest := [.int 0, .ref oL]) ⟨hx, hb, hml, hown, hts⟩ (c_X2_count l hl9 G k h a c C n0 M ds n1 d  w  hn1) (cwV 1 hts gL_count_X2_count rfl rfl rfl (by decide +kernel) ⟨Nat.le_of_ble_eq_true rfl, Nat.le_of_ble_eq_true rfl⟩) ⟨yE_blind, va_recv hK hP2 (ci := 4) (q0 := 0) rfl rfl, fun U hU hW => ⟨rfl, by rw [hU]; exact hP2, va_K.moved hW.alike hK, yEV_at hE hU hW⟩⟩ rfl rfl hl.1 rfl (lv_room (Nat.le_of_ble_eq_true rfl)) dL_count_4 ⟨Nat.le_of_ble_eq_true rfl, Nat.le_of_ble_eq_true rfl⟩) hS ?_ (fun r hp9 => ?_)
  · intro E ce q9 H1 locs1 hpx hk9 hS9 hce hcv hcl
    rcases hpx with ⟨rfl, hcd⟩
    · have hcd9 : ¬ (o_count w M n1).1 = 0 := by rw [hcd]; decide
      have hPf : va_P G vwCl (WL k oL fL h a c C n0 M ds n1 d) H1 := yKeep hP hk9
      refine vx_catch (own := RL) (name := "java/lang/IllegalArgumentException") (E := "java/lang/IllegalArgumentException") (ce := ce) hown [] (⟨0, 9, 12, 13⟩ : ExceptionTableEntry) [] (by rw [htab]; rfl) (fun z hz => nomatch hz) (by decide) (by decide) (hts (.classLink RL 13 "java/lang/IllegalArgumentException") (by decide +kernel)) (va_Nw.use rfl (hE.1 (.castable "java/lang/IllegalArgumentException" "java/lang/IllegalArgumentException") (by decide +kernel))) hce hcv hcl ?_
      refine lv_astore_n (lv' := [(3, .ref q9), (0, .ref h), (1, .int w), (2, .ref oL)]) hx hb dL_count_12 rfl hl (by decide) rfl (fun ls hl => ?_)
      refine lv_iconst (v := 1) hx hb dL_count_13 (by decide) ?_
      exact W.iret (v := 1) hx hb hr (fun τ hτ hW => ⟨⟨_, fL, rfl, ⟨hcd.symm, fun h9 => absurd h9 hcd9⟩, yPt hPf hτ⟩, hS9.F hτ⟩) hS9.2.2 dL_count_14
  · obtain ⟨hp8, hp9⟩ := hp9
    have hP9 := hP
    have hD9 := hD
    have hS9 := hS
    subst hp9
    refine lv_i2l (v := ((o_count w M n1).2).toInt64) hx hb dL_count_7 rfl ?_
    refine va_last hx hb hK hP9 hD9 hS9 0 3 rfl rfl (x := (((o_count w M n1).2).toInt64)) (vp_in_nI (n := 0) (N := 1) (by decide) (by decide)) dL_count_8 (fun H2 locs2 hP8 hD8 hS8 => ?_)
    have hPf : va_P G vwCl (WL k oL (vp_updL fL 0 (((o_count w M n1).2).toInt64)) h a c C n0 M ds n1 d) H2 := hP8
    refine lv_goto (tgt := 15) hx hb dL_count_9 (by decide) ?_
    refine lv_iconst (v := 0) hx hb dL_count_15 (by decide) ?_
    exact W.iret (v := 0) hx hb hr (fun τ hτ hW => ⟨⟨_, (vp_updL fL 0 (((o_count w M n1).2).toInt64)), rfl, ⟨hp8.symm, fun _ => by rfl⟩, yPt hPf hτ⟩, hS8.F hτ⟩) hS8.2.2 dL_count_16

set_option maxHeartbeats 4000000 in
set_option maxRecDepth 100000 in
theorem c_L_doneShare (l : Launch) (hl9 : l.stackTraces = false) (G : va_G) (k : Nat → ClassId) (h : Nat) (a : Nat → Nat) (c : Nat → Nat) (C : Nat → Nat → Int32) (n0 : Nat) (M : Nat → Nat → Int32) (ds : Nat) (n1 : Nat) (d : Nat) (oD : Nat) (fD : Nat → UInt64) (sz : Nat)  (hND : va_D (fun _ => True) (WD k oD fD h a c C n0 M ds n1 d)) (hn1 : n1 ≤ 80) : Met l yL_doneShare wsL_doneShare ({ frames := 7, cells := 1, slots := 6, locals := 110 }) (va_Pc [.ref h, .ref oD] (yL G (yT k) (WD k oD fD h a c C n0 M ds n1 d) sz)) (va_Qi (fun (r : Int32) (f : Nat → UInt64) => r = (o_share M n1).1 ∧ ((o_share M n1).1 = 0 → f 0 = FP.f2d (o_share M n1).2)) (fun f τ => va_P G vwCl (WD k oD f h a c C n0 M ds n1 d) τ.heap) (va_A (WD k oD fD h a c C n0 M ds n1 d) sz)) 1 6 (va_A (WD k oD fD h a c C n0 M ds n1 d) sz) := by
  refine va_MetW (cc := cL_doneShare) (maxL := 3) (ret := (some .int)) (hh := [(0, 8, 11, 96)]) (by decide) rfl ?_
  intro p e s m args below meth c_ s₁ B hml hv
  obtain ⟨rfl, hsz, hP, hK, hE, hNC⟩ := hv
  have hE : yEV0 s s.heap := hE
  have hx := B.exec
  have hb := B.bytes
  have hr := B.returns
  have hts := atoms_spec (ws := wsL_doneShare) B.pre
  have hown : s.vm.findClass RL = some m.cls := findClass_of_methodNamed B.named
  have hlocks := B.notSynchronized
  have htab : c_.exceptionTable.toList = tableOf [(0, 8, 11, 96)] := vx_table (x := yL_doneShare) B (hts (.codeWith yL_doneShare cL_doneShare 3 (some .int) [(0, 8, 11, 96)]) List.mem_cons_self)
  subst hsz
  have hD := hND.self (sz := s.heap.size)
  have hA9 : ∀ q, va_A (W2 k h a c C n0 M ds n1 d) s.heap.size q → va_A (WD k oD fD h a c C n0 M ds n1 d) s.heap.size q := fun q h => yA_tl h
  generalize hAe : va_A (WD k oD fD h a c C n0 M ds n1 d) s.heap.size = A at hD hA9 ⊢
  have hA : ∀ q : Nat, s.heap.size ≤ q → A q := fun q h => by rw [← hAe]; exact Or.inr h
  have hS : va_S A s.heap s.heap [] := va_S.rf
  have hP2 : va_P G vwCl (W2 k h a c C n0 M ds n1 d) s.heap := yP_tl hP
  have hND2 : va_D (fun _ => True) (W2 k h a c C n0 M ds n1 d) := yD_tl hND
  have hl := lv_entry ([.ref h, .ref oD]) (n := 3) (Nat.le_of_ble_eq_true rfl)
  rw [lg_entry_eq]
  generalize (lg_sl ([.ref h, .ref oD]) ++ List.replicate (3 - (lg_sl ([.ref h, .ref oD])).length) Slot.unset).toArray = ls at hl ⊢
  have hl : lv_has ls 3 [(0, .ref h), (1, .ref oD)] := hl
  refine lv_aload_n hx hb dL_doneShare_0 rfl (lv_at hl 1 rfl) ?_
  refine lv_iconst (v := 0) hx hb dL_doneShare_1 (by decide) ?_
  refine lv_aload_n hx hb dL_doneShare_2 rfl (lv_at hl 0 rfl) ?_
  refine y_hread (mk := Value.float) yQf (vx_runV (As := []) (rest := [.int 0, .ref oD]) ⟨hx, hb, hml, hown, hts⟩ (c_X2_doneShare l hl9 G k h a c C n0 M ds n1 d    hn1) (cwV 0 hts gL_doneShare_X2_doneShare rfl rfl rfl (by decide +kernel) ⟨Nat.le_of_ble_eq_true rfl, Nat.le_of_ble_eq_true rfl⟩) ⟨yE_blind, va_recv hK hP2 (ci := 4) (q0 := 0) rfl rfl, fun U hU hW => ⟨rfl, by rw [hU]; exact hP2, va_K.moved hW.alike hK, yEV_at hE hU hW⟩⟩ rfl rfl hl.1 rfl (lv_room (Nat.le_of_ble_eq_true rfl)) dL_doneShare_3 ⟨Nat.le_of_ble_eq_true rfl, Nat.le_of_ble_eq_true rfl⟩) hS ?_ (fun r hp9 => ?_)
  · intro E ce q9 H1 locs1 hpx hk9 hS9 hce hcv hcl
    rcases hpx with ⟨rfl, hcd⟩
    · have hcd9 : ¬ (o_share M n1).1 = 0 := by rw [hcd]; decide
      have hPf : va_P G vwCl (WD k oD fD h a c C n0 M ds n1 d) H1 := yKeep hP hk9
      refine vx_catch (own := RL) (name := "java/lang/ArithmeticException") (E := "java/lang/ArithmeticException") (ce := ce) hown [] (⟨0, 8, 11, 96⟩ : ExceptionTableEntry) [] (by rw [htab]; rfl) (fun z hz => nomatch hz) (by decide) (by decide) (hts (.classLink RL 96 "java/lang/ArithmeticException") (by decide +kernel)) (va_Nw.use rfl (hE.1 (.castable "java/lang/ArithmeticException" "java/lang/ArithmeticException") (by decide +kernel))) hce hcv hcl ?_
      refine lv_astore_n (lv' := [(2, .ref q9), (0, .ref h), (1, .ref oD)]) hx hb dL_doneShare_11 rfl hl (by decide) rfl (fun ls hl => ?_)
      refine lv_iconst (v := 1) hx hb dL_doneShare_12 (by decide) ?_
      exact W.iret (v := 1) hx hb hr (fun τ hτ hW => ⟨⟨_, fD, rfl, ⟨hcd.symm, fun h9 => absurd h9 hcd9⟩, yPt hPf hτ⟩, hS9.F hτ⟩) hS9.2.2 dL_doneShare_13
  · obtain ⟨hp8, hp9⟩ := hp9
    have hP9 := hP
    have hD9 := hD
    have hS9 := hS
    subst hp9
    refine lv_f2d hx hb dL_doneShare_6 (y_f2d hn1 hp8) ?_
    refine va_dast hx hb hK hP9 hD9 hS9 0 4 rfl rfl (x := (FP.f2d (o_share M n1).2)) (vp_in_nI (n := 0) (N := 1) (by decide) (by decide)) dL_doneShare_7 (fun H2 locs2 hP8 hD8 hS8 => ?_)
    have hPf : va_P G vwCl (WD k oD (vf_upd fD 0 (FP.f2d (o_share M n1).2)) h a c C n0 M ds n1 d) H2 := hP8
    refine lv_goto (tgt := 14) hx hb dL_doneShare_8 (by decide) ?_
    refine lv_iconst (v := 0) hx hb dL_doneShare_14 (by decide) ?_
    exact W.iret (v := 0) hx hb hr (fun τ hτ hW => ⟨⟨_, (vf_upd fD 0 (FP.f2d (o_share M n1).2)), rfl, ⟨hp8.symm, fun _ => by rfl⟩, yPt hPf hτ⟩, hS8.F hτ⟩) hS8.2.2 dL_doneShare_15

set_option maxHeartbeats 4000000 in
set_option maxRecDepth 100000 in
theorem c_L_meanAmount (l : Launch) (hl9 : l.stackTraces = false) (G : va_G) (k : Nat → ClassId) (h : Nat) (a : Nat → Nat) (c : Nat → Nat) (C : Nat → Nat → Int32) (n0 : Nat) (M : Nat → Nat → Int32) (ds : Nat) (n1 : Nat) (d : Nat) (oD : Nat) (fD : Nat → UInt64) (sz : Nat)  (hND : va_D (fun _ => True) (WD k oD fD h a c C n0 M ds n1 d)) (hn : n0 ≤ 8) : Met l yL_meanAmount wsL_meanAmount ({ frames := 7, cells := 1, slots := 6, locals := 111 }) (va_Pc [.ref h, .ref oD] (yL G (yT k) (WD k oD fD h a c C n0 M ds n1 d) sz)) (va_Qi (fun (r : Int32) (f : Nat → UInt64) => r = (o_mean C n0).1 ∧ ((o_mean C n0).1 = 0 → f 0 = (o_mean C n0).2)) (fun f τ => va_P G vwCl (WD k oD f h a c C n0 M ds n1 d) τ.heap) (va_A (WD k oD fD h a c C n0 M ds n1 d) sz)) 1 6 (va_A (WD k oD fD h a c C n0 M ds n1 d) sz) := by
  refine va_MetW (cc := cL_meanAmount) (maxL := 3) (ret := (some .int)) (hh := [(0, 7, 10, 96)]) (by decide) rfl ?_
  intro p e s m args below meth c_ s₁ B hml hv
  obtain ⟨rfl, hsz, hP, hK, hE, hNC⟩ := hv
  have hE : yEV0 s s.heap := hE
  have hx := B.exec
  have hb := B.bytes
  have hr := B.returns
  have hts := atoms_spec (ws := wsL_meanAmount) B.pre
  have hown : s.vm.findClass RL = some m.cls := findClass_of_methodNamed B.named
  have hlocks := B.notSynchronized
  have htab : c_.exceptionTable.toList = tableOf [(0, 7, 10, 96)] := vx_table (x := yL_meanAmount) B (hts (.codeWith yL_meanAmount cL_meanAmount 3 (some .int) [(0, 7, 10, 96)]) List.mem_cons_self)
  subst hsz
  have hD := hND.self (sz := s.heap.size)
  have hA9 : ∀ q, va_A (W2 k h a c C n0 M ds n1 d) s.heap.size q → va_A (WD k oD fD h a c C n0 M ds n1 d) s.heap.size q := fun q h => yA_tl h
  generalize hAe : va_A (WD k oD fD h a c C n0 M ds n1 d) s.heap.size = A at hD hA9 ⊢
  have hA : ∀ q : Nat, s.heap.size ≤ q → A q := fun q h => by rw [← hAe]; exact Or.inr h
  have hS : va_S A s.heap s.heap [] := va_S.rf
  have hP2 : va_P G vwCl (W2 k h a c C n0 M ds n1 d) s.heap := yP_tl hP
  have hND2 : va_D (fun _ => True) (W2 k h a c C n0 M ds n1 d) := yD_tl hND
  have hl := lv_entry ([.ref h, .ref oD]) (n := 3) (Nat.le_of_ble_eq_true rfl)
  rw [lg_entry_eq]
  generalize (lg_sl ([.ref h, .ref oD]) ++ List.replicate (3 - (lg_sl ([.ref h, .ref oD])).length) Slot.unset).toArray = ls at hl ⊢
  have hl : lv_has ls 3 [(0, .ref h), (1, .ref oD)] := hl
  refine lv_aload_n hx hb dL_meanAmount_0 rfl (lv_at hl 1 rfl) ?_
  refine lv_iconst (v := 0) hx hb dL_meanAmount_1 (by decide) ?_
  refine lv_aload_n hx hb dL_meanAmount_2 rfl (lv_at hl 0 rfl) ?_
  refine y_hread (mk := Value.double) yQd (vx_runV (As := []) (rest := [.int 0, .ref oD]) ⟨hx, hb, hml, hown, hts⟩ (c_X2_meanAmount l hl9 G k h a c C n0 M ds n1 d    hn) (cwV 0 hts gL_meanAmount_X2_meanAmount rfl rfl rfl (by decide +kernel) ⟨Nat.le_of_ble_eq_true rfl, Nat.le_of_ble_eq_true rfl⟩) ⟨yE_blind, va_recv hK hP2 (ci := 4) (q0 := 0) rfl rfl, fun U hU hW => ⟨rfl, by rw [hU]; exact hP2, va_K.moved hW.alike hK, yEV_at hE hU hW⟩⟩ rfl rfl hl.1 rfl (lv_room (Nat.le_of_ble_eq_true rfl)) dL_meanAmount_3 ⟨Nat.le_of_ble_eq_true rfl, Nat.le_of_ble_eq_true rfl⟩) hS ?_ (fun r hp9 => ?_)
  · intro E ce q9 H1 locs1 hpx hk9 hS9 hce hcv hcl
    rcases hpx with ⟨rfl, hcd⟩
    · have hcd9 : ¬ (o_mean C n0).1 = 0 := by rw [hcd]; decide
      have hPf : va_P G vwCl (WD k oD fD h a c C n0 M ds n1 d) H1 := yKeep hP hk9
      refine vx_catch (own := RL) (name := "java/lang/ArithmeticException") (E := "java/lang/ArithmeticException") (ce := ce) hown [] (⟨0, 7, 10, 96⟩ : ExceptionTableEntry) [] (by rw [htab]; rfl) (fun z hz => nomatch hz) (by decide) (by decide) (hts (.classLink RL 96 "java/lang/ArithmeticException") (by decide +kernel)) (va_Nw.use rfl (hE.1 (.castable "java/lang/ArithmeticException" "java/lang/ArithmeticException") (by decide +kernel))) hce hcv hcl ?_
      refine lv_astore_n (lv' := [(2, .ref q9), (0, .ref h), (1, .ref oD)]) hx hb dL_meanAmount_10 rfl hl (by decide) rfl (fun ls hl => ?_)
      refine lv_iconst (v := 1) hx hb dL_meanAmount_11 (by decide) ?_
      exact W.iret (v := 1) hx hb hr (fun τ hτ hW => ⟨⟨_, fD, rfl, ⟨hcd.symm, fun h9 => absurd h9 hcd9⟩, yPt hPf hτ⟩, hS9.F hτ⟩) hS9.2.2 dL_meanAmount_12
  · obtain ⟨hp8, hp9⟩ := hp9
    have hP9 := hP
    have hD9 := hD
    have hS9 := hS
    subst hp9
    refine va_dast hx hb hK hP9 hD9 hS9 0 4 rfl rfl (x := ((o_mean C n0).2)) (vp_in_nI (n := 0) (N := 1) (by decide) (by decide)) dL_meanAmount_6 (fun H2 locs2 hP8 hD8 hS8 => ?_)
    have hPf : va_P G vwCl (WD k oD (vf_upd fD 0 ((o_mean C n0).2)) h a c C n0 M ds n1 d) H2 := hP8
    refine lv_goto (tgt := 13) hx hb dL_meanAmount_7 (by decide) ?_
    refine lv_iconst (v := 0) hx hb dL_meanAmount_13 (by decide) ?_
    exact W.iret (v := 0) hx hb hr (fun τ hτ hW => ⟨⟨_, (vf_upd fD 0 ((o_mean C n0).2)), rfl, ⟨hp8.symm, fun _ => by rfl⟩, yPt hPf hτ⟩, hS8.F hτ⟩) hS8.2.2 dL_meanAmount_14
