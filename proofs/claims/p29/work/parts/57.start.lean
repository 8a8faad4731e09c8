/-! the law's entry: what the claim gives of the start -/
theorem y_flags {l : Launch} (h : l.flags = flags0) : l.stackTraces = false := by
  unfold Launch.stackTraces
  rw [h]
  decide +kernel
theorem y_inNW : ∀ w ∈ yNW, w ∈ lw_tbl := by decide +kernel
theorem y_inST : ∀ q ∈ yST, Cond.stringRef RX2 q.1 q.2 ∈ lw_tbl := by decide +kernel
theorem y_K0 {b : Nat} {s : State} (hts : ∀ w ∈ lw_tbl, w.before #[Value.ref b] s = true) : ∃ G : va_G, ∀ (k : Nat) (q : vw_C), vwCl[k]? = some q → u_Kn s q.1 q.2.1 q.2.2 (G.1 k) (G.2 k) := by
  obtain ⟨c0, i0, h0⟩ := u_known (C := RJ0) (T := TJ0) (N := 2) (n := 4) hts inJ0 (hts (.instantiable RJ0 4) (by decide +kernel))
  obtain ⟨c1, i1, h1⟩ := u_known (C := RJx00060) (T := TJx00060) (N := 6) (n := 6) hts (by decide +kernel) (hts (.instantiable RJx00060 6) (by decide +kernel))
  obtain ⟨c2, i2, h2⟩ := u_known (C := RX0) (T := TX0) (N := 7) (n := 7) hts inX0 (hts (.instantiable RX0 7) (by decide +kernel))
  obtain ⟨c3, i3, h3⟩ := u_known (C := RX1) (T := TX1) (N := 13) (n := 13) hts inX1 (hts (.instantiable RX1 13) (by decide +kernel))
  obtain ⟨c4, i4, h4⟩ := u_known (C := RX2) (T := TX2) (N := 3) (n := 3) hts inX2 (hts (.instantiable RX2 3) (by decide +kernel))
  refine ⟨(fun k => match k with | 0 => c0 | 1 => c1 | 2 => c2 | 3 => c3 | _ => c4, fun k => match k with | 0 => i0 | 1 => i1 | 2 => i2 | 3 => i3 | _ => i4), ?_⟩
  intro k q hq
  match k, hq with
  | 0, hq => cases hq; exact h0
  | 1, hq => cases hq; exact h1
  | 2, hq => cases hq; exact h2
  | 3, hq => cases hq; exact h3
  | 4, hq => cases hq; exact h4
  | k + 5, hq => simp [vwCl] at hq
theorem y_NC0 {b : Nat} {s : State} (hgv : (Jvm.Cond.and given_1 narrow_1).before #[Value.ref b] s = true) : yNC s := by
  have hs := flat_of_before _ hgv
  have h9 : ∀ q ∈ yNCs, (Cond.not (.castable q.1 q.2)).before #[Value.ref b] s = true := by
    unfold yNCs
    simp only [List.forall_mem_cons]
    refine ⟨hs _ (by decide +kernel), hs _ (by decide +kernel), hs _ (by decide +kernel), hs _ (by decide +kernel), hs _ (by decide +kernel), hs _ (by decide +kernel), hs _ (by decide +kernel), hs _ (by decide +kernel), hs _ (by decide +kernel), hs _ (by decide +kernel), hs _ (by decide +kernel), hs _ (by decide +kernel), hs _ (by decide +kernel), hs _ (by decide +kernel), hs _ (by decide +kernel), hs _ (by decide +kernel), hs _ (by decide +kernel), hs _ (by decide +kernel), hs _ (by decide +kernel), hs _ (by decide +kernel), fun _ h => absurd h List.not_mem_nil⟩
  exact fun q hq => va_Nc.of (h9 q hq)
theorem y_E0 {b : Nat} {s : State} {c : ClassId} (hX2 : s.vm.findClass RX2 = some c) (hts : ∀ w ∈ lw_tbl, w.before #[Value.ref b] s = true) (hgv : (Jvm.Cond.and given_1 narrow_1).before #[Value.ref b] s = true) : yEV0 s s.heap := by
  have hs := flat_of_before _ hgv
  refine ⟨fun w hw => va_Nw.of (ykind_tab (yNW_kind w hw)) (hts w (y_inNW w hw)), fun q hq => ?_, vx_Zqof (hts _ (by decide +kernel)) (hts (.initialized "java/lang/Throwable") (by decide +kernel)) (hs _ (by decide +kernel)) (fun _ _ h => h), vx_Zqof (hts _ (by decide +kernel)) (hts (.initialized "java/lang/Throwable") (by decide +kernel)) (hs _ (by decide +kernel)) (fun _ _ h => h)⟩
  have h1 := hts _ (y_inST q hq)
  obtain ⟨k, cf, j, a, hk, -, -, -, hr, hev⟩ := Cond.stringRef_spec hX2 h1
  exact ⟨a, vk_R.of h1 hev⟩
theorem y_two {P : Nat → Prop} (h0 : P 0) (h1 : P 1) : ∀ i : Nat, i < 2 → P i := fun i hi => by
  rcases (show i = 0 ∨ i = 1 by omega) with rfl | rfl
  · exact h0
  · exact h1
def yTm (i : Nat) : Term := if i = 0 then Term.string "DunningDeskLaw" 111 else Term.string "DunningDeskLaw" 177
theorem y_SS0 {b : Nat} {s : State} (hts : ∀ w ∈ lw_tbl, w.before #[Value.ref b] s = true) (hgv : (Jvm.Cond.and given_1 narrow_1).before #[Value.ref b] s = true) : ySS s s.heap := by
  have hs := flat_of_before _ hgv
  have elms : ∀ i : Nat, i < 2 → ∀ j : Nat, j < ([5, 2] : List Nat).getD i 0 → (Cond.eq (.elem (.field (yTm i) "java/lang/String" "value" "[B") (.int (Int32.ofNat j))) (.int ((([[104, 119, 116, 100, 120], [112, 110]] : List (List Int32)).getD i []).getD j 0))).before #[Value.ref b] s = true := by
    intro i hi j hj
    rcases (show i = 0 ∨ i = 1 by omega) with rfl | rfl
    · have hj5 : j < 5 := hj
      rcases (show j = 0 ∨ j = 1 ∨ j = 2 ∨ j = 3 ∨ j = 4 by omega) with rfl | rfl | rfl | rfl | rfl
      · exact hs (Cond.eq (.elem (.field (.string "DunningDeskLaw" 111) "java/lang/String" "value" "[B") (.int 0)) (.int 104)) (by decide +kernel)
      · exact hs (Cond.eq (.elem (.field (.string "DunningDeskLaw" 111) "java/lang/String" "value" "[B") (.int 1)) (.int 119)) (by decide +kernel)
      · exact hs (Cond.eq (.elem (.field (.string "DunningDeskLaw" 111) "java/lang/String" "value" "[B") (.int 2)) (.int 116)) (by decide +kernel)
      · exact hs (Cond.eq (.elem (.field (.string "DunningDeskLaw" 111) "java/lang/String" "value" "[B") (.int 3)) (.int 100)) (by decide +kernel)
      · exact hs (Cond.eq (.elem (.field (.string "DunningDeskLaw" 111) "java/lang/String" "value" "[B") (.int 4)) (.int 120)) (by decide +kernel)
    · have hj2 : j < 2 := hj
      rcases (show j = 0 ∨ j = 1 by omega) with rfl | rfl
      · exact hs (Cond.eq (.elem (.field (.string "DunningDeskLaw" 177) "java/lang/String" "value" "[B") (.int 0)) (.int 112)) (by decide +kernel)
      · exact hs (Cond.eq (.elem (.field (.string "DunningDeskLaw" 177) "java/lang/String" "value" "[B") (.int 1)) (.int 110)) (by decide +kernel)
  have hne : (Cond.not (Cond.eq (yTm 0) (yTm 1))).before #[Value.ref b] s = true ∨ (Cond.not (Cond.eq (yTm 1) (yTm 0))).before #[Value.ref b] s = true := by
    first | exact Or.inl (hs (Cond.not (Cond.eq (.string "DunningDeskLaw" 111) (.string "DunningDeskLaw" 177))) (by decide +kernel)) | exact Or.inr (hs (Cond.not (Cond.eq (.string "DunningDeskLaw" 177) (.string "DunningDeskLaw" 111))) (by decide +kernel))
  obtain ⟨adK, adV, h1, h2⟩ := vk_Sof (args := #[Value.ref b]) (s := s) (N := 2) (tm := yTm) (len := [5, 2]) (byt := [[104, 119, 116, 100, 120], [112, 110]]) (A := fun _ => False)
    (y_two (by decide) (by decide))
    (y_two (hs (Cond.exactly (.string "DunningDeskLaw" 111) "java/lang/String") (by decide +kernel)) (hs (Cond.exactly (.string "DunningDeskLaw" 177) "java/lang/String") (by decide +kernel)))
    (y_two (hs (Cond.eq (.field (.string "DunningDeskLaw" 111) "java/lang/String" "coder" "B") (.int 0)) (by decide +kernel)) (hs (Cond.eq (.field (.string "DunningDeskLaw" 177) "java/lang/String" "coder" "B") (.int 0)) (by decide +kernel)))
    (y_two (hs (Cond.arrayOf (.field (.string "DunningDeskLaw" 111) "java/lang/String" "value" "[B") .byte) (by decide +kernel)) (hs (Cond.arrayOf (.field (.string "DunningDeskLaw" 177) "java/lang/String" "value" "[B") .byte) (by decide +kernel)))
    (y_two (hs (Cond.eq (.length (.field (.string "DunningDeskLaw" 111) "java/lang/String" "value" "[B")) (.int 5)) (by decide +kernel)) (hs (Cond.eq (.length (.field (.string "DunningDeskLaw" 177) "java/lang/String" "value" "[B")) (.int 2)) (by decide +kernel)))
    elms
    (fun i j hi hj hij => by
      rcases (show i = 0 ∨ i = 1 by omega) with rfl | rfl <;> rcases (show j = 0 ∨ j = 1 by omega) with rfl | rfl
      · exact absurd rfl hij
      · exact hne
      · exact hne.symm
      · exact absurd rfl hij)
    (fun _ _ h9 => h9)
  refine ⟨adK, adV, ⟨h1, va_Zof (hts (.laysStatic "java/lang/String" "COMPACT_STRINGS" "Z") (by decide +kernel)) (hts (.initialized "java/lang/String") (by decide +kernel)) (va_eqt (hs (Cond.eq (.static "java/lang/String" "COMPACT_STRINGS" "Z") (.int 1)) (by decide +kernel))) (fun _ _ h9 => h9), va_Zqof (hts (.laysStatic "jdk/internal/util/Preconditions" "SIOOBE_FORMATTER" "Ljava/util/function/BiFunction;") (by decide +kernel)) (hts (.initialized "jdk/internal/util/Preconditions") (by decide +kernel)) (hs (Cond.isRef (.static "jdk/internal/util/Preconditions" "SIOOBE_FORMATTER" "Ljava/util/function/BiFunction;")) (by decide +kernel)) (fun _ _ h9 => h9)⟩, vk_R.of (hts (.stringRef "DunningDeskLaw" 111 "hwtdx") (by decide +kernel)) (h2 0 (by decide)), vk_R.of (hts (.stringRef "DunningDeskLaw" 177 "pn") (by decide +kernel)) (h2 1 (by decide))⟩
theorem yJs_0 : yJs ((fun _ _ => 0), 0, (fun _ _ => 0), 0, 0, 0) := ⟨yY_0.1, fun z hz => absurd hz (Nat.not_lt_zero z), fun i j hi => absurd hi (Nat.not_lt_zero i), fun c hc => absurd hc (Nat.not_lt_zero c)⟩
set_option maxHeartbeats 8000000 in
set_option maxRecDepth 100000 in
theorem whole_start {p : Program} {e : Env} {s : State} {m : MethodId} {below : List Frame} {meth : Method} {c : Code} (l : Launch) (hflags : l.flags = flags0) {b L : Nat} {xs : Nat → Int32} (hL : L ≤ 260) (C0 : lw_At p s m meth c b L xs) : W p l e room_1 s m #[Value.ref b] below meth c s.heap [] 0 0 (lw_Z below #[Value.ref b] s) (entryFrame m ([Value.ref b] : List Value).toArray 16) := by
  obtain ⟨hx, hb, hr, hml, hown, hts0, hX, hbl, hlocks, hgv⟩ := C0
  have hts : ∀ w ∈ wsL_law, w.before #[Value.ref b] s = true := fun w h => hts0 w (wsL_law_in w h)
  have hown : s.vm.findClass RL = some m.cls := hown
  have hl9 : l.stackTraces = false := y_flags hflags
  obtain ⟨G, hKc⟩ := y_K0 hts0
  obtain ⟨cX, kX, hfX, hkX, _⟩ := Cond.instantiable_spec (hts (.instantiable RX2 3) (by decide +kernel))
  have hE : yEV0 s s.heap := y_E0 hfX hts0 hgv
  have hNC : yNC s := y_NC0 hgv
  have hV : yV s s.heap := ⟨hE, hNC, y_SS0 hts0 hgv⟩
  have hA : ∀ q : Nat, s.heap.size ≤ q → (fun q : Nat => s.heap.size ≤ q) q := fun _ h => h
  have hbA : ¬ (fun q : Nat => s.heap.size ≤ q) b := Nat.not_le.mpr hbl
  have hS : va_S (fun q : Nat => s.heap.size ≤ q) s.heap s.heap [] := va_S.rf
  have hK : va_K G vwCl [] s := ⟨hKc, fun k q h => by simp at h⟩
  have hP : va_P G vwCl [] s.heap := fun k q h => by simp at h
  have hD : va_D (fun q : Nat => s.heap.size ≤ q) [] := ⟨fun i j p q h => by simp at h, fun k q h => by simp at h⟩
  have hl := lv_entry ([.ref b]) (n := 16) (Nat.le_of_ble_eq_true rfl)
  rw [lg_entry_eq]
  generalize (lg_sl ([.ref b]) ++ List.replicate (16 - (lg_sl ([.ref b])).length) Slot.unset).toArray = ls at hl ⊢
  have hl : lv_has ls 16 [(0, .ref b)] := hl
  refine va_new (ci := 4) (fs := [.null, .null, .int 0]) (C := RX2) (T := TX2) (N := 3) hx hb hts (by decide +kernel) tyX2 tyX2_ok hown (hts (.classLink RL 8 RX2) (by decide +kernel)) (hts (.instantiable RX2 3) (by decide +kernel)) (hts (.initialized RX2) (by decide +kernel)) hK hP hD hS hA rfl (fun j hj => by rcases (show j = 0 ∨ j = 1 ∨ j = 2 by omega) with rfl | rfl | rfl <;> rfl) (Nat.le_of_ble_eq_true rfl) (Nat.le_of_ble_eq_true rfl) dL_law_0 (fun q0 H hP hD hS => ?_)
  have hP : va_P G vwCl [(q0, .inr (4, [.null, .null, .int 0]))] H := hP
  have hD : va_D (fun q : Nat => s.heap.size ≤ q) [(q0, .inr (4, [.null, .null, .int 0]))] := hD
  refine lv_dup hx hb dL_law_3 rfl ?_
  have hPc := hP.sub (ws' := [(q0, .inr (4, [.null, .null, .int 0]))]) [0] rfl
  have hDc := hD.sub (ws' := [(q0, .inr (4, [.null, .null, .int 0]))]) [0] (by decide) rfl
  have hKc := hK.sub (tys' := []) [] rfl
  have hFc := va_free (wc := [(q0, .inr (4, [.null, .null, .int 0]))]) hD hS hA [0] rfl
  refine va_callv (va_runI (As := []) (rest := [.ref q0]) ⟨hx, hb, hml, hown, hts⟩ (c_X2_init l G q0 H.size) (cwI 0 hts gL_law_X2_init rfl rfl rfl (hts (.initialized RX2) (by decide +kernel)) (hts (.methodLink RL 155 yX2_init) (by decide +kernel)) (hts (.instanceMethod yX2_init) (by decide +kernel)) rfl (by decide +kernel) ⟨Nat.le_of_ble_eq_true rfl, Nat.le_of_ble_eq_true rfl⟩) ⟨fun a U g mk q => ⟨q.1, q.2.1, q.2.2.1, va_K.moved (u := U) (U := U.calling g mk a) (Vm.Alike.refl U.vm) q.2.2.2.1, q.2.2.2.2.1, fun w hw => va_Nw.same (u := U) (U := U.calling g mk a) (ykind_tab (yNW_kind w hw)) rfl (q.2.2.2.2.2 w hw)⟩, fun U hU hW => ⟨rfl, by rw [hU], by rw [hU]; exact hPc, va_K.moved hW.alike hKc, hDc.weaken (fun _ _ _ _ => trivial), fun w hw => ykind_warm (yNW_kind w hw) hW (hE.1 w hw)⟩⟩ rfl rfl hl.1 rfl (lv_room (Nat.le_of_ble_eq_true rfl)) dL_law_4 ⟨Nat.le_of_ble_eq_true rfl, Nat.le_of_ble_eq_true rfl⟩) hS (fun q _ h => hFc q h) hFc (fun u t H1 locs1 ht hvm hw hB hz1 hk1 hS => ?_)
  obtain ⟨k0, a0, a1⟩ := u
  obtain ⟨hP1, hK1, hD1⟩ := hB
  rw [ht] at hP1
  have hK1 := va_K.moved hvm.symm hK1
  dsimp only at hw hP1 hK1 hD1
  obtain ⟨hP, hD⟩ := va_join (wr := []) (w1 := W2 k0 q0 a0 a1 (fun _ _ => 0) 0 (fun _ _ => 0) 0 0 0) hP hD [0] [] rfl rfl (by decide) (by decide) hk1 hFc hP1 hD1
  have hK := (hK.sub (tys' := []) [] rfl).app hK1
  have hP : va_P G vwCl (W2 k0 q0 a0 a1 (fun _ _ => 0) 0 (fun _ _ => 0) 0 0 0) H1 := hP
  have hD : va_D (fun q : Nat => s.heap.size ≤ q) (W2 k0 q0 a0 a1 (fun _ _ => 0) 0 (fun _ _ => 0) 0 0 0) := hD
  have hK : va_K G vwCl [(k0 0, .int), (k0 1, .boolean), (k0 2, .char)] s := hK
  refine lv_astore_n (lv' := [(1, .ref q0), (0, .ref b)]) hx hb dL_law_7 rfl hl (by decide) rfl (fun ls hl => ?_)
  obtain ⟨hP0, hD0⟩ : va_P G vwCl (WS k0 q0 a0 a1 ((fun _ _ => 0), 0, (fun _ _ => 0), 0, 0, 0)) H1 ∧ ∀ σ : SX, va_D (fun q : Nat => s.heap.size ≤ q) (WS k0 q0 a0 a1 σ) := ⟨hP, fun σ => yD hD rfl⟩
  have hP := hP0
  have hDA := hD0
  clear hP0 hD0 hD
  refine lv_aload_n hx hb dL_law_8 rfl (lv_at hl 1 rfl) ?_
  refine lv_iconst (v := 0) hx hb dL_law_9 (by decide) ?_
  refine y_lro (va_runS (As := [.ref b, .int 0]) (rest := []) ⟨hx, hb, hml, hown, hts⟩ (c_at l b L xs 0 H1.size hL (by decide)) (va_cwS 2 hts gL_law_L_at rfl rfl rfl (by decide +kernel) ⟨Nat.le_of_ble_eq_true rfl, Nat.le_of_ble_eq_true rfl⟩) (yXp hX hbl hS) rfl rfl hl.1 rfl (lv_room (Nat.le_of_ble_eq_true rfl)) dL_law_10 ⟨Nat.le_of_ble_eq_true rfl, Nat.le_of_ble_eq_true rfl⟩) hS (fun r H2 locs2 hr9 hk9 hS2 => ?_)
  have hP := yKeep hP hk9
  refine lv_bipush (v := 58) hx hb dL_law_13 (by decide) ?_
  refine y_roS (As := [.int r, .int 58]) (rest := []) ⟨hx, hb, hml, hown, hts⟩ (c_some l r 58 (by decide) (by decide)) (va_cwS 2 hts gL_law_L_some rfl rfl rfl (by decide +kernel) ⟨Nat.le_of_ble_eq_true rfl, Nat.le_of_ble_eq_true rfl⟩) rfl hl.1 rfl (Nat.le_of_ble_eq_true rfl) dL_law_15 ⟨Nat.le_of_ble_eq_true rfl, Nat.le_of_ble_eq_true rfl⟩ (fun r2 hr8 => ?_)
  obtain ⟨z9, hz9, rfl⟩ := hr8
  refine lv_istore_n (lv' := [(2, .int (nI z9)), (1, .ref q0), (0, .ref b)]) hx hb dL_law_18 rfl hl (by decide) rfl (fun ls hl => ?_)
  refine lv_iconst (v := 0) hx hb dL_law_19 (by decide) ?_
  refine lv_istore_n (lv' := [(3, .int 0), (2, .int (nI z9)), (1, .ref q0), (0, .ref b)]) hx hb dL_law_20 rfl hl (by decide) rfl (fun ls hl => ?_)
  exact law_loop ⟨hx, hb, hr, hml, hown, hts, hX, hbl, hL, hK, hV, hl9, hlocks, hDA⟩ hz9 58 0 yJs_0 (Nat.le_refl 0) hP hS2 (by decide) (by omega) (Nat.le_of_ble_eq_true rfl) (Nat.le_of_ble_eq_true rfl) (lv_sub hl [3, 2, 1, 0] rfl)
