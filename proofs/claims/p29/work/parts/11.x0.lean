/-! what the cases' methods answer, as functions -/
theorem y_add0 (x : Int32) : x + 0 = x := by simp
abbrev inR (x : Int32) (n : Nat) : Prop := ¬ x < 0 ∧ x < nI n
theorem inR_of {x : Int32} {n : Nat} (hn : n < 2 ^ 31) (h : inR x n) : ∃ j : Nat, j < n ∧ x = nI j := by
  obtain ⟨j, hj, rfl⟩ := nI_of h.1
  exact ⟨j, (nI_ltI hj hn).mp h.2, rfl⟩
theorem inR_nI {j n : Nat} (hn : n < 2 ^ 31) (h : j < n) : inR (nI j) n := ⟨nI_pos (by omega), (nI_ltI (by omega) hn).mpr h⟩
def cnt (q : Nat → Bool) : Nat → Nat → Nat → Nat
  | 0, _, a => a
  | r + 1, i, a => cnt q r (i + 1) (if q i then a + 1 else a)
theorem cnt_t {q : Nat → Bool} {r i a : Nat} (h : q i = true) : cnt q (r + 1) i a = cnt q r (i + 1) (a + 1) := by simp [cnt, h]
theorem cnt_f {q : Nat → Bool} {r i a : Nat} (h : q i = false) : cnt q (r + 1) i a = cnt q r (i + 1) a := by simp [cnt, h]
theorem cnt_le (q : Nat → Bool) : ∀ r i a : Nat, cnt q r i a ≤ r + a
  | 0, _, a => Nat.le_add_left a 0
  | r + 1, i, a => by
    have h := cnt_le q r (i + 1) (if q i then a + 1 else a)
    have h2 : (if q i then a + 1 else a) ≤ a + 1 := by split <;> omega
    simp only [cnt]; omega
def sm (f : Nat → Int32) : Nat → Nat → Int32 → Int32
  | 0, _, a => a
  | r + 1, i, a => sm f r (i + 1) (a + f i)
set_option maxHeartbeats 4000000 in
set_option maxRecDepth 100000 in
theorem c_X0_contains (l : Launch) (G : va_G) (k : Nat → ClassId) (a : Nat → Nat) (C : Nat → Nat → Int32) (n0 : Nat) (x : Int32) (hn : n0 ≤ 8) : Met l yX0_contains wsX0_contains ({ frames := 0, cells := 0, slots := 0, locals := 0 }) (va_Pc [.ref (a 0), .int x] (yB G (yT k) (W0 k a C n0))) (vp_Si (fun r => r = b2 (inR x n0))) 0 0 (fun _ => False) := by
  refine Met.ofW (cc := cX0_contains) (maxL := 2) (ret := (some .boolean)) (by decide) rfl ?_
  intro p e s m args below meth c_ s₁ B hml hv
  obtain ⟨rfl, hP, hK⟩ := hv
  have hx := B.exec
  have hb := B.bytes
  have hr := B.returns
  have hts := atoms_spec (ws := wsX0_contains) B.pre
  have hown : s.vm.findClass RX0 = some m.cls := findClass_of_methodNamed B.named
  have hlocks := B.notSynchronized
  have hsz0 : (8 : Nat) < 2 ^ 31 := by decide
  have hsz1 : (80 : Nat) < 2 ^ 31 := by decide
  have hinX0 : ∀ w ∈ u_ws RX0 TX0 7, w ∈ wsX0_contains := by decide +kernel
  have fl31 := hts (.fieldLink RX0 31 "DunningDesk$CaseBook" "size" "I") (by decide +kernel)
  have hl := lv_entry [.ref (a 0), .int x] (n := 2) (Nat.le_of_ble_eq_true rfl)
  rw [lg_entry_eq]
  generalize (lg_sl [.ref (a 0), .int x] ++ List.replicate (2 - (lg_sl [.ref (a 0), .int x]).length) Slot.unset).toArray = ls at hl ⊢
  have hl : lv_has ls 2 [(0, .ref (a 0)), (1, .int x)] := hl
  refine lv_iload_n hx hb dX0_contains_0 rfl (lv_at hl 1 rfl) ?_
  refine lv_if_lt (tgt := 16) hx hb dX0_contains_1 (by decide) (fun c1 => ?_) (fun c1 => ?_)
  · skip
    refine lv_iconst (v := 0) hx hb dX0_contains_16 (by decide) ?_
    exact W.zret (v := 0) hx hb hr (by decide) (fun τ hτ _ => ⟨_, rfl, (by first | exact (b2_f (fun h9 => h9.1 (by assumption))).symm | exact (b2_f (fun h9 => absurd h9.2 (Int32.not_lt.mpr (by assumption)))).symm | exact (b2_t ⟨by assumption, Int32.not_le.mp (by assumption)⟩).symm), hτ⟩) (fun _ h9 => nomatch h9) dX0_contains_17
  · skip
    refine lv_iload_n hx hb dX0_contains_4 rfl (lv_at hl 1 rfl) ?_
    refine lv_aload_n hx hb dX0_contains_5 rfl (lv_at hl 0 rfl) ?_
    refine va_get (D := G) (ci := 2) (v := .int (nI n0)) (C := RX0) (T := TX0) (N := 7) hx hb hts hinX0 hown hK hP 0 rfl rfl 6 (by decide) fl31 (fun _ h9 => h9) rfl dX0_contains_6 ?_
    refine lv_icmp_ge (tgt := 16) hx hb dX0_contains_9 (by decide) (fun c9 => ?_) (fun c9 => ?_)
    · skip
      refine lv_iconst (v := 0) hx hb dX0_contains_16 (by decide) ?_
      exact W.zret (v := 0) hx hb hr (by decide) (fun τ hτ _ => ⟨_, rfl, (by first | exact (b2_f (fun h9 => h9.1 (by assumption))).symm | exact (b2_f (fun h9 => absurd h9.2 (Int32.not_lt.mpr (by assumption)))).symm | exact (b2_t ⟨by assumption, Int32.not_le.mp (by assumption)⟩).symm), hτ⟩) (fun _ h9 => nomatch h9) dX0_contains_17
    · skip
      refine lv_iconst (v := 1) hx hb dX0_contains_12 (by decide) ?_
      refine lv_goto (tgt := 17) hx hb dX0_contains_13 (by decide) ?_
      exact W.zret (v := 1) hx hb hr (by decide) (fun τ hτ _ => ⟨_, rfl, (by first | exact (b2_f (fun h9 => h9.1 (by assumption))).symm | exact (b2_f (fun h9 => absurd h9.2 (Int32.not_lt.mpr (by assumption)))).symm | exact (b2_t ⟨by assumption, Int32.not_le.mp (by assumption)⟩).symm), hτ⟩) (fun _ h9 => nomatch h9) dX0_contains_17

set_option maxHeartbeats 4000000 in
set_option maxRecDepth 100000 in
theorem c_X0_isFull (l : Launch) (G : va_G) (k : Nat → ClassId) (a : Nat → Nat) (C : Nat → Nat → Int32) (n0 : Nat)  (hn : n0 ≤ 8) : Met l yX0_isFull wsX0_isFull ({ frames := 0, cells := 0, slots := 0, locals := 0 }) (va_Pc [.ref (a 0)] (yB G (yT k) (W0 k a C n0))) (vp_Si (fun r => r = b2 (8 ≤ n0))) 0 0 (fun _ => False) := by
  refine Met.ofW (cc := cX0_isFull) (maxL := 1) (ret := (some .boolean)) (by decide) rfl ?_
  intro p e s m args below meth c_ s₁ B hml hv
  obtain ⟨rfl, hP, hK⟩ := hv
  have hx := B.exec
  have hb := B.bytes
  have hr := B.returns
  have hts := atoms_spec (ws := wsX0_isFull) B.pre
  have hown : s.vm.findClass RX0 = some m.cls := findClass_of_methodNamed B.named
  have hlocks := B.notSynchronized
  have hsz0 : (8 : Nat) < 2 ^ 31 := by decide
  have hsz1 : (80 : Nat) < 2 ^ 31 := by decide
  have hinX0 : ∀ w ∈ u_ws RX0 TX0 7, w ∈ wsX0_isFull := by decide +kernel
  have fl31 := hts (.fieldLink RX0 31 "DunningDesk$CaseBook" "size" "I") (by decide +kernel)
  have hl := lv_entry [.ref (a 0)] (n := 1) (Nat.le_of_ble_eq_true rfl)
  rw [lg_entry_eq]
  generalize (lg_sl [.ref (a 0)] ++ List.replicate (1 - (lg_sl [.ref (a 0)]).length) Slot.unset).toArray = ls at hl ⊢
  have hl : lv_has ls 1 [(0, .ref (a 0))] := hl
  refine lv_aload_n hx hb dX0_isFull_0 rfl (lv_at hl 0 rfl) ?_
  refine va_get (D := G) (ci := 2) (v := .int (nI n0)) (C := RX0) (T := TX0) (N := 7) hx hb hts hinX0 hown hK hP 0 rfl rfl 6 (by decide) fl31 (fun _ h9 => h9) rfl dX0_isFull_1 ?_
  refine lv_bipush (v := 8) hx hb dX0_isFull_4 (by decide) ?_
  refine lv_icmp_lt (tgt := 13) hx hb dX0_isFull_6 (by decide) (fun c6 => ?_) (fun c6 => ?_)
  · replace c6 : n0 < 8 := (nI_ltI (a := n0) (b := 8) (by omega) (by omega)).mp c6
    refine lv_iconst (v := 0) hx hb dX0_isFull_13 (by decide) ?_
    exact W.zret (v := 0) hx hb hr (by decide) (fun τ hτ _ => ⟨_, rfl, (by first | exact (b2_f (by omega)).symm | exact (b2_t (by omega)).symm), hτ⟩) (fun _ h9 => nomatch h9) dX0_isFull_14
  · replace c6 : ¬ n0 < 8 := fun h9 => c6 ((nI_ltI (a := n0) (b := 8) (by omega) (by omega)).mpr h9)
    refine lv_iconst (v := 1) hx hb dX0_isFull_9 (by decide) ?_
    refine lv_goto (tgt := 14) hx hb dX0_isFull_10 (by decide) ?_
    exact W.zret (v := 1) hx hb hr (by decide) (fun τ hτ _ => ⟨_, rfl, (by first | exact (b2_f (by omega)).symm | exact (b2_t (by omega)).symm), hτ⟩) (fun _ h9 => nomatch h9) dX0_isFull_14

set_option maxHeartbeats 4000000 in
set_option maxRecDepth 100000 in
theorem c_X0_isOpen (l : Launch) (G : va_G) (k : Nat → ClassId) (a : Nat → Nat) (C : Nat → Nat → Int32) (n0 : Nat) (i : Nat) (hi : i < 8) : Met l yX0_isOpen wsX0_isOpen ({ frames := 0, cells := 0, slots := 0, locals := 0 }) (va_Pc [.ref (a 0), .int (nI i)] (yB G (yT k) (W0 k a C n0))) (vp_Si (fun r => r = b2 (0 < C 0 i))) 0 0 (fun _ => False) := by
  refine Met.ofW (cc := cX0_isOpen) (maxL := 2) (ret := (some .boolean)) (by decide) rfl ?_
  intro p e s m args below meth c_ s₁ B hml hv
  obtain ⟨rfl, hP, hK⟩ := hv
  have hx := B.exec
  have hb := B.bytes
  have hr := B.returns
  have hts := atoms_spec (ws := wsX0_isOpen) B.pre
  have hown : s.vm.findClass RX0 = some m.cls := findClass_of_methodNamed B.named
  have hlocks := B.notSynchronized
  have hsz0 : (8 : Nat) < 2 ^ 31 := by decide
  have hsz1 : (80 : Nat) < 2 ^ 31 := by decide
  have hinX0 : ∀ w ∈ u_ws RX0 TX0 7, w ∈ wsX0_isOpen := by decide +kernel
  have fl15 := hts (.fieldLink RX0 15 "DunningDesk$CaseBook" "amounts" "[I") (by decide +kernel)
  have hl := lv_entry [.ref (a 0), .int (nI i)] (n := 2) (Nat.le_of_ble_eq_true rfl)
  rw [lg_entry_eq]
  generalize (lg_sl [.ref (a 0), .int (nI i)] ++ List.replicate (2 - (lg_sl [.ref (a 0), .int (nI i)]).length) Slot.unset).toArray = ls at hl ⊢
  have hl : lv_has ls 2 [(0, .ref (a 0)), (1, .int (nI i))] := hl
  refine lv_aload_n hx hb dX0_isOpen_0 rfl (lv_at hl 0 rfl) ?_
  refine va_get (D := G) (ci := 2) (v := .ref (a 2)) (C := RX0) (T := TX0) (N := 7) hx hb hts hinX0 hown hK hP 0 rfl rfl 1 (by decide) fl15 (fun _ h9 => h9) rfl dX0_isOpen_1 ?_
  refine lv_iload_n hx hb dX0_isOpen_4 rfl (lv_at hl 1 rfl) ?_
  refine y_iald hx hb hK hP 2 0 rfl rfl (j := i) (by omega) hsz0 dX0_isOpen_5 ?_
  refine lv_if_le (tgt := 13) hx hb dX0_isOpen_6 (by decide) (fun c6 => ?_) (fun c6 => ?_)
  · skip
    refine lv_iconst (v := 0) hx hb dX0_isOpen_13 (by decide) ?_
    exact W.zret (v := 0) hx hb hr (by decide) (fun τ hτ _ => ⟨_, rfl, (by first | exact (b2_f (Int32.not_lt.mpr (by assumption))).symm | exact (b2_t (Int32.not_le.mp (by assumption))).symm), hτ⟩) (fun _ h9 => nomatch h9) dX0_isOpen_14
  · skip
    refine lv_iconst (v := 1) hx hb dX0_isOpen_9 (by decide) ?_
    refine lv_goto (tgt := 14) hx hb dX0_isOpen_10 (by decide) ?_
    exact W.zret (v := 1) hx hb hr (by decide) (fun τ hτ _ => ⟨_, rfl, (by first | exact (b2_f (Int32.not_lt.mpr (by assumption))).symm | exact (b2_t (Int32.not_le.mp (by assumption))).symm), hτ⟩) (fun _ h9 => nomatch h9) dX0_isOpen_14

set_option maxHeartbeats 4000000 in
set_option maxRecDepth 100000 in
theorem c_X0_reminderDay (l : Launch) (G : va_G) (k : Nat → ClassId) (a : Nat → Nat) (C : Nat → Nat → Int32) (n0 : Nat) (i : Nat) (hi : i < 8) : Met l yX0_reminderDay wsX0_reminderDay ({ frames := 0, cells := 0, slots := 0, locals := 0 }) (va_Pc [.ref (a 0), .int (nI i)] (yB G (yT k) (W0 k a C n0))) (vp_Si (fun r => r = C 1 i + 7 * C 2 i + 1)) 0 0 (fun _ => False) := by
  refine Met.ofW (cc := cX0_reminderDay) (maxL := 2) (ret := (some .int)) (by decide) rfl ?_
  intro p e s m args below meth c_ s₁ B hml hv
  obtain ⟨rfl, hP, hK⟩ := hv
  have hx := B.exec
  have hb := B.bytes
  have hr := B.returns
  have hts := atoms_spec (ws := wsX0_reminderDay) B.pre
  have hown : s.vm.findClass RX0 = some m.cls := findClass_of_methodNamed B.named
  have hlocks := B.notSynchronized
  have hsz0 : (8 : Nat) < 2 ^ 31 := by decide
  have hsz1 : (80 : Nat) < 2 ^ 31 := by decide
  have hinX0 : ∀ w ∈ u_ws RX0 TX0 7, w ∈ wsX0_reminderDay := by decide +kernel
  have fl18 := hts (.fieldLink RX0 18 "DunningDesk$CaseBook" "dueDays" "[I") (by decide +kernel)
  have fl21 := hts (.fieldLink RX0 21 "DunningDesk$CaseBook" "lettersSent" "[I") (by decide +kernel)
  have hl := lv_entry [.ref (a 0), .int (nI i)] (n := 2) (Nat.le_of_ble_eq_true rfl)
  rw [lg_entry_eq]
  generalize (lg_sl [.ref (a 0), .int (nI i)] ++ List.replicate (2 - (lg_sl [.ref (a 0), .int (nI i)]).length) Slot.unset).toArray = ls at hl ⊢
  have hl : lv_has ls 2 [(0, .ref (a 0)), (1, .int (nI i))] := hl
  refine lv_aload_n hx hb dX0_reminderDay_0 rfl (lv_at hl 0 rfl) ?_
  refine va_get (D := G) (ci := 2) (v := .ref (a 3)) (C := RX0) (T := TX0) (N := 7) hx hb hts hinX0 hown hK hP 0 rfl rfl 2 (by decide) fl18 (fun _ h9 => h9) rfl dX0_reminderDay_1 ?_
  refine lv_iload_n hx hb dX0_reminderDay_4 rfl (lv_at hl 1 rfl) ?_
  refine y_iald hx hb hK hP 3 0 rfl rfl (j := i) (by omega) hsz0 dX0_reminderDay_5 ?_
  refine lv_bipush (v := 7) hx hb dX0_reminderDay_6 (by decide) ?_
  refine lv_aload_n hx hb dX0_reminderDay_8 rfl (lv_at hl 0 rfl) ?_
  refine va_get (D := G) (ci := 2) (v := .ref (a 4)) (C := RX0) (T := TX0) (N := 7) hx hb hts hinX0 hown hK hP 0 rfl rfl 3 (by decide) fl21 (fun _ h9 => h9) rfl dX0_reminderDay_9 ?_
  refine lv_iload_n hx hb dX0_reminderDay_12 rfl (lv_at hl 1 rfl) ?_
  refine y_iald hx hb hK hP 4 0 rfl rfl (j := i) (by omega) hsz0 dX0_reminderDay_13 ?_
  refine lv_imul hx hb dX0_reminderDay_14 ?_
  refine lv_iadd hx hb dX0_reminderDay_15 ?_
  refine lv_iconst (v := 1) hx hb dX0_reminderDay_16 (by decide) ?_
  refine lv_iadd hx hb dX0_reminderDay_17 ?_
  exact W.iret (v := (((C 1 i) + (7 * (C 2 i))) + 1)) hx hb hr (fun τ hτ _ => ⟨_, rfl, (by rfl), hτ⟩) (fun _ h9 => nomatch h9) dX0_reminderDay_18

set_option maxHeartbeats 4000000 in
set_option maxRecDepth 100000 in
theorem c_X0_add (l : Launch) (G : va_G) (k : Nat → ClassId) (a : Nat → Nat) (C : Nat → Nat → Int32) (n0 : Nat) (sz : Nat) (x due : Int32) (hND : va_D (fun _ => True) (W0 k a C n0)) (hn : n0 < 8) : Met l yX0_add wsX0_add ({ frames := 0, cells := 0, slots := 0, locals := 0 }) (va_Pc [.ref (a 0), .int x, .int due] (yBs G (yT k) (W0 k a C n0) sz)) (va_Qi (fun (r : Int32) (_ : Unit) => r = nI n0) (fun _ τ => va_P G vwCl (W0 k a (w2 (w2 (w2 C 5 n0 x) 0 n0 x) 1 n0 due) (n0 + 1)) τ.heap) (va_A (W0 k a C n0) sz)) 0 0 (va_A (W0 k a C n0) sz) := by
  refine Met.ofW (cc := cX0_add) (maxL := 4) (ret := (some .int)) (by decide) rfl ?_
  intro p e s m args below meth c_ s₁ B hml hv
  obtain ⟨rfl, hsz, hP, hK⟩ := hv
  have hx := B.exec
  have hb := B.bytes
  have hr := B.returns
  have hts := atoms_spec (ws := wsX0_add) B.pre
  have hown : s.vm.findClass RX0 = some m.cls := findClass_of_methodNamed B.named
  have hlocks := B.notSynchronized
  have hsz0 : (8 : Nat) < 2 ^ 31 := by decide
  have hsz1 : (80 : Nat) < 2 ^ 31 := by decide
  subst hsz
  have hD := hND.self (sz := s.heap.size)
  generalize hAe : va_A (W0 k a C n0) s.heap.size = A at hD ⊢
  have hA : ∀ q : Nat, s.heap.size ≤ q → A q := fun q h => by rw [← hAe]; exact Or.inr h
  have hS : va_S A s.heap s.heap [] := va_S.rf
  have hinX0 : ∀ w ∈ u_ws RX0 TX0 7, w ∈ wsX0_add := by decide +kernel
  have fl31 := hts (.fieldLink RX0 31 "DunningDesk$CaseBook" "size" "I") (by decide +kernel)
  have fl9 := hts (.fieldLink RX0 9 "DunningDesk$CaseBook" "firstAmounts" "[I") (by decide +kernel)
  have fl15 := hts (.fieldLink RX0 15 "DunningDesk$CaseBook" "amounts" "[I") (by decide +kernel)
  have fl18 := hts (.fieldLink RX0 18 "DunningDesk$CaseBook" "dueDays" "[I") (by decide +kernel)
  have hl := lv_entry [.ref (a 0), .int x, .int due] (n := 4) (Nat.le_of_ble_eq_true rfl)
  rw [lg_entry_eq]
  generalize (lg_sl [.ref (a 0), .int x, .int due] ++ List.replicate (4 - (lg_sl [.ref (a 0), .int x, .int due]).length) Slot.unset).toArray = ls at hl ⊢
  have hl : lv_has ls 4 [(0, .ref (a 0)), (1, .int x), (2, .int due)] := hl
  refine lv_aload_n hx hb dX0_add_0 rfl (lv_at hl 0 rfl) ?_
  refine va_get (D := G) (ci := 2) (v := .int (nI n0)) (C := RX0) (T := TX0) (N := 7) hx hb hts hinX0 hown hK hP 0 rfl rfl 6 (by decide) fl31 (fun _ h9 => h9) rfl dX0_add_1 ?_
  refine lv_istore_n (lv' := [(3, .int (nI n0)), (0, .ref (a 0)), (1, .int x), (2, .int due)]) hx hb dX0_add_4 rfl hl (by decide) rfl (fun ls hl => ?_)
  refine lv_aload_n hx hb dX0_add_5 rfl (lv_at hl 1 rfl) ?_
  refine va_get (D := G) (ci := 2) (v := .ref (a 1)) (C := RX0) (T := TX0) (N := 7) hx hb hts hinX0 hown hK hP 0 rfl rfl 0 (by decide) fl9 (fun _ h9 => h9) rfl dX0_add_6 ?_
  refine lv_iload_n hx hb dX0_add_9 rfl (lv_at hl 0 rfl) ?_
  refine lv_iload_n hx hb dX0_add_10 rfl (lv_at hl 2 rfl) ?_
  refine y_iast (ws' := W0 k a (w2 C 5 n0 x) n0) (j := n0) (x := x) hx hb hK hP hD hS 1 0 rfl rfl (by omega) hsz0 rfl dX0_add_11 (fun H locs hP hD hS => ?_)
  refine lv_aload_n hx hb dX0_add_12 rfl (lv_at hl 1 rfl) ?_
  refine va_get (D := G) (ci := 2) (v := .ref (a 2)) (C := RX0) (T := TX0) (N := 7) hx hb hts hinX0 hown hK hP 0 rfl rfl 1 (by decide) fl15 (fun _ h9 => h9) rfl dX0_add_13 ?_
  refine lv_iload_n hx hb dX0_add_16 rfl (lv_at hl 0 rfl) ?_
  refine lv_iload_n hx hb dX0_add_17 rfl (lv_at hl 2 rfl) ?_
  refine y_iast (ws' := W0 k a (w2 (w2 C 5 n0 x) 0 n0 x) n0) (j := n0) (x := x) hx hb hK hP hD hS 2 0 rfl rfl (by omega) hsz0 rfl dX0_add_18 (fun H locs hP hD hS => ?_)
  refine lv_aload_n hx hb dX0_add_19 rfl (lv_at hl 1 rfl) ?_
  refine va_get (D := G) (ci := 2) (v := .ref (a 3)) (C := RX0) (T := TX0) (N := 7) hx hb hts hinX0 hown hK hP 0 rfl rfl 2 (by decide) fl18 (fun _ h9 => h9) rfl dX0_add_20 ?_
  refine lv_iload_n hx hb dX0_add_23 rfl (lv_at hl 0 rfl) ?_
  refine lv_iload_n hx hb dX0_add_24 rfl (lv_at hl 3 rfl) ?_
  refine y_iast (ws' := W0 k a (w2 (w2 (w2 C 5 n0 x) 0 n0 x) 1 n0 due) n0) (j := n0) (x := due) hx hb hK hP hD hS 3 0 rfl rfl (by omega) hsz0 rfl dX0_add_25 (fun H locs hP hD hS => ?_)
  refine lv_aload_n hx hb dX0_add_26 rfl (lv_at hl 1 rfl) ?_
  refine lv_dup hx hb dX0_add_27 rfl ?_
  refine va_get (D := G) (ci := 2) (v := .int (nI n0)) (C := RX0) (T := TX0) (N := 7) hx hb hts hinX0 hown hK hP 0 rfl rfl 6 (by decide) fl31 (fun _ h9 => h9) rfl dX0_add_28 ?_
  refine lv_iconst (v := 1) hx hb dX0_add_31 (by decide) ?_
  refine lv_iadd hx hb dX0_add_32 ?_
  refine y_top (nI_1 n0) ?_
  refine va_put (D := G) (ci := 2) (v := .int (nI (n0 + 1))) (ty := .int) (C := RX0) (T := TX0) (N := 7) hx hb hts hinX0 tyX0 tyX0_ok nmX0 hown hK hP hD hS 0 rfl rfl 6 (by decide) fl31 (fun _ h9 => h9) rfl (by decide +kernel) rfl rfl (Nat.le_of_ble_eq_true rfl) dX0_add_33 (fun H locs hP hD hS => ?_)
  have hP : va_P G vwCl (W0 k a (w2 (w2 (w2 C 5 n0 x) 0 n0 x) 1 n0 due) (n0 + 1)) H := hP
  have hD : va_D A (W0 k a (w2 (w2 (w2 C 5 n0 x) 0 n0 x) 1 n0 due) (n0 + 1)) := hD
  refine lv_iload_n hx hb dX0_add_36 rfl (lv_at hl 0 rfl) ?_
  have hPf : va_P G vwCl (W0 k a (w2 (w2 (w2 C 5 n0 x) 0 n0 x) 1 n0 due) (n0 + 1)) H := by exact hP
  exact W.iret (v := (nI n0)) hx hb hr (fun τ hτ hW => ⟨⟨_, (), rfl, (by rfl), yPt hPf hτ⟩, hS.F hτ⟩) hS.2.2 dX0_add_37

set_option maxHeartbeats 4000000 in
set_option maxRecDepth 100000 in
theorem c_X0_pauseUntil (l : Launch) (G : va_G) (k : Nat → ClassId) (a : Nat → Nat) (C : Nat → Nat → Int32) (n0 : Nat) (sz : Nat) (i : Nat) (x : Int32) (hND : va_D (fun _ => True) (W0 k a C n0)) (hi : i < 8) : Met l yX0_pauseUntil wsX0_pauseUntil ({ frames := 1, cells := 0, slots := 0, locals := 21 }) (va_Pc [.ref (a 0), .int (nI i), .int x] (yBs G (yT k) (W0 k a C n0) sz)) (va_Qi (fun (r : Int32) (_ : Unit) => r = mx (C 3 i) x) (fun _ τ => va_P G vwCl (W0 k a (w2 C 3 i (mx (C 3 i) x)) n0) τ.heap) (va_A (W0 k a C n0) sz)) 0 0 (va_A (W0 k a C n0) sz) := by
  refine Met.ofW (cc := cX0_pauseUntil) (maxL := 3) (ret := (some .int)) (by decide) rfl ?_
  intro p e s m args below meth c_ s₁ B hml hv
  obtain ⟨rfl, hsz, hP, hK⟩ := hv
  have hx := B.exec
  have hb := B.bytes
  have hr := B.returns
  have hts := atoms_spec (ws := wsX0_pauseUntil) B.pre
  have hown : s.vm.findClass RX0 = some m.cls := findClass_of_methodNamed B.named
  have hlocks := B.notSynchronized
  have hsz0 : (8 : Nat) < 2 ^ 31 := by decide
  have hsz1 : (80 : Nat) < 2 ^ 31 := by decide
  subst hsz
  have hD := hND.self (sz := s.heap.size)
  generalize hAe : va_A (W0 k a C n0) s.heap.size = A at hD ⊢
  have hA : ∀ q : Nat, s.heap.size ≤ q → A q := fun q h => by rw [← hAe]; exact Or.inr h
  have hS : va_S A s.heap s.heap [] := va_S.rf
  have hinX0 : ∀ w ∈ u_ws RX0 TX0 7, w ∈ wsX0_pauseUntil := by decide +kernel
  have fl24 := hts (.fieldLink RX0 24 "DunningDesk$CaseBook" "pauseEnds" "[I") (by decide +kernel)
  have hl := lv_entry [.ref (a 0), .int (nI i), .int x] (n := 3) (Nat.le_of_ble_eq_true rfl)
  rw [lg_entry_eq]
  generalize (lg_sl [.ref (a 0), .int (nI i), .int x] ++ List.replicate (3 - (lg_sl [.ref (a 0), .int (nI i), .int x]).length) Slot.unset).toArray = ls at hl ⊢
  have hl : lv_has ls 3 [(0, .ref (a 0)), (1, .int (nI i)), (2, .int x)] := hl
  refine lv_aload_n hx hb dX0_pauseUntil_0 rfl (lv_at hl 0 rfl) ?_
  refine va_get (D := G) (ci := 2) (v := .ref (a 5)) (C := RX0) (T := TX0) (N := 7) hx hb hts hinX0 hown hK hP 0 rfl rfl 4 (by decide) fl24 (fun _ h9 => h9) rfl dX0_pauseUntil_1 ?_
  refine lv_iload_n hx hb dX0_pauseUntil_4 rfl (lv_at hl 1 rfl) ?_
  refine lv_aload_n hx hb dX0_pauseUntil_5 rfl (lv_at hl 0 rfl) ?_
  refine va_get (D := G) (ci := 2) (v := .ref (a 5)) (C := RX0) (T := TX0) (N := 7) hx hb hts hinX0 hown hK hP 0 rfl rfl 4 (by decide) fl24 (fun _ h9 => h9) rfl dX0_pauseUntil_6 ?_
  refine lv_iload_n hx hb dX0_pauseUntil_9 rfl (lv_at hl 1 rfl) ?_
  refine y_iald hx hb hK hP 5 0 rfl rfl (j := i) (by omega) hsz0 dX0_pauseUntil_10 ?_
  refine lv_iload_n hx hb dX0_pauseUntil_11 rfl (lv_at hl 2 rfl) ?_
  refine va_mmax hx hb (hml.trans hl.1.symm) hown (hts (.methodLink RX0 35 Lib.Math.max.name) (by decide +kernel)) (hts (.static Lib.Math.max.name) (by decide +kernel)) (hts (.initialized "java/lang/Math") (by decide +kernel)) (hts (.code Lib.Math.max.name Lib.Math.max.code 2 (some .int)) (by decide +kernel)) (Nat.le_of_ble_eq_true rfl) (Nat.le_of_ble_eq_true rfl) (Nat.le_of_ble_eq_true rfl) (Nat.le_of_ble_eq_true rfl) dX0_pauseUntil_12 ?_
  refine y_top (y := mx (C 3 i) x) rfl ?_
  refine y_iast (ws' := W0 k a (w2 C 3 i (mx (C 3 i) x)) n0) (j := i) (x := (mx (C 3 i) x)) hx hb hK hP hD hS 5 0 rfl rfl (by omega) hsz0 rfl dX0_pauseUntil_15 (fun H locs hP hD hS => ?_)
  refine lv_aload_n hx hb dX0_pauseUntil_16 rfl (lv_at hl 0 rfl) ?_
  refine va_get (D := G) (ci := 2) (v := .ref (a 5)) (C := RX0) (T := TX0) (N := 7) hx hb hts hinX0 hown hK hP 0 rfl rfl 4 (by decide) fl24 (fun _ h9 => h9) rfl dX0_pauseUntil_17 ?_
  refine lv_iload_n hx hb dX0_pauseUntil_20 rfl (lv_at hl 1 rfl) ?_
  refine y_iald hx hb hK hP 5 0 rfl rfl (j := i) (by omega) hsz0 dX0_pauseUntil_21 ?_
  refine y_top ((by rw [w2_k, pk_us] : w2 C 3 i (mx (C 3 i) x) 3 i = mx (C 3 i) x)) ?_
  have hPf : va_P G vwCl (W0 k a (w2 C 3 i (mx (C 3 i) x)) n0) H := by exact hP
  exact W.iret (v := (mx (C 3 i) x)) hx hb hr (fun τ hτ hW => ⟨⟨_, (), rfl, (by rfl), yPt hPf hτ⟩, hS.F hτ⟩) hS.2.2 dX0_pauseUntil_22

set_option maxHeartbeats 4000000 in
set_option maxRecDepth 100000 in
theorem c_X0_pay (l : Launch) (G : va_G) (k : Nat → ClassId) (a : Nat → Nat) (C : Nat → Nat → Int32) (n0 : Nat) (sz : Nat) (i : Nat) (v : Int32) (hND : va_D (fun _ => True) (W0 k a C n0)) (hi : i < 8) : Met l yX0_pay wsX0_pay ({ frames := 1, cells := 0, slots := 0, locals := 21 }) (va_Pc [.ref (a 0), .int (nI i), .int v] (yBs G (yT k) (W0 k a C n0) sz)) (va_Qi (fun (r : Int32) (_ : Unit) => r = b2 (mx 0 (C 0 i - v) ≠ C 0 i)) (fun _ τ => va_P G vwCl (W0 k a (w2 C 0 i (mx 0 (C 0 i - v))) n0) τ.heap) (va_A (W0 k a C n0) sz)) 0 0 (va_A (W0 k a C n0) sz) := by
  refine Met.ofW (cc := cX0_pay) (maxL := 4) (ret := (some .boolean)) (by decide) rfl ?_
  intro p e s m args below meth c_ s₁ B hml hv
  obtain ⟨rfl, hsz, hP, hK⟩ := hv
  have hx := B.exec
  have hb := B.bytes
  have hr := B.returns
  have hts := atoms_spec (ws := wsX0_pay) B.pre
  have hown : s.vm.findClass RX0 = some m.cls := findClass_of_methodNamed B.named
  have hlocks := B.notSynchronized
  have hsz0 : (8 : Nat) < 2 ^ 31 := by decide
  have hsz1 : (80 : Nat) < 2 ^ 31 := by decide
  subst hsz
  have hD := hND.self (sz := s.heap.size)
  generalize hAe : va_A (W0 k a C n0) s.heap.size = A at hD ⊢
  have hA : ∀ q : Nat, s.heap.size ≤ q → A q := fun q h => by rw [← hAe]; exact Or.inr h
  have hS : va_S A s.heap s.heap [] := va_S.rf
  have hinX0 : ∀ w ∈ u_ws RX0 TX0 7, w ∈ wsX0_pay := by decide +kernel
  have fl15 := hts (.fieldLink RX0 15 "DunningDesk$CaseBook" "amounts" "[I") (by decide +kernel)
  have hl := lv_entry [.ref (a 0), .int (nI i), .int v] (n := 4) (Nat.le_of_ble_eq_true rfl)
  rw [lg_entry_eq]
  generalize (lg_sl [.ref (a 0), .int (nI i), .int v] ++ List.replicate (4 - (lg_sl [.ref (a 0), .int (nI i), .int v]).length) Slot.unset).toArray = ls at hl ⊢
  have hl : lv_has ls 4 [(0, .ref (a 0)), (1, .int (nI i)), (2, .int v)] := hl
  refine lv_aload_n hx hb dX0_pay_0 rfl (lv_at hl 0 rfl) ?_
  refine va_get (D := G) (ci := 2) (v := .ref (a 2)) (C := RX0) (T := TX0) (N := 7) hx hb hts hinX0 hown hK hP 0 rfl rfl 1 (by decide) fl15 (fun _ h9 => h9) rfl dX0_pay_1 ?_
  refine lv_iload_n hx hb dX0_pay_4 rfl (lv_at hl 1 rfl) ?_
  refine y_iald hx hb hK hP 2 0 rfl rfl (j := i) (by omega) hsz0 dX0_pay_5 ?_
  refine lv_istore_n (lv' := [(3, .int (C 0 i)), (0, .ref (a 0)), (1, .int (nI i)), (2, .int v)]) hx hb dX0_pay_6 rfl hl (by decide) rfl (fun ls hl => ?_)
  refine lv_aload_n hx hb dX0_pay_7 rfl (lv_at hl 1 rfl) ?_
  refine va_get (D := G) (ci := 2) (v := .ref (a 2)) (C := RX0) (T := TX0) (N := 7) hx hb hts hinX0 hown hK hP 0 rfl rfl 1 (by decide) fl15 (fun _ h9 => h9) rfl dX0_pay_8 ?_
  refine lv_iload_n hx hb dX0_pay_11 rfl (lv_at hl 2 rfl) ?_
  refine lv_iconst (v := 0) hx hb dX0_pay_12 (by decide) ?_
  refine lv_iload_n hx hb dX0_pay_13 rfl (lv_at hl 0 rfl) ?_
  refine lv_iload_n hx hb dX0_pay_14 rfl (lv_at hl 3 rfl) ?_
  refine lv_isub hx hb dX0_pay_15 ?_
  refine va_mmax hx hb (hml.trans hl.1.symm) hown (hts (.methodLink RX0 35 Lib.Math.max.name) (by decide +kernel)) (hts (.static Lib.Math.max.name) (by decide +kernel)) (hts (.initialized "java/lang/Math") (by decide +kernel)) (hts (.code Lib.Math.max.name Lib.Math.max.code 2 (some .int)) (by decide +kernel)) (Nat.le_of_ble_eq_true rfl) (Nat.le_of_ble_eq_true rfl) (Nat.le_of_ble_eq_true rfl) (Nat.le_of_ble_eq_true rfl) dX0_pay_16 ?_
  refine y_top (y := mx 0 ((C 0 i) - v)) rfl ?_
  refine y_iast (ws' := W0 k a (w2 C 0 i (mx 0 ((C 0 i) - v))) n0) (j := i) (x := (mx 0 ((C 0 i) - v))) hx hb hK hP hD hS 2 0 rfl rfl (by omega) hsz0 rfl dX0_pay_19 (fun H locs hP hD hS => ?_)
  refine lv_aload_n hx hb dX0_pay_20 rfl (lv_at hl 1 rfl) ?_
  refine va_get (D := G) (ci := 2) (v := .ref (a 2)) (C := RX0) (T := TX0) (N := 7) hx hb hts hinX0 hown hK hP 0 rfl rfl 1 (by decide) fl15 (fun _ h9 => h9) rfl dX0_pay_21 ?_
  refine lv_iload_n hx hb dX0_pay_24 rfl (lv_at hl 2 rfl) ?_
  refine y_iald hx hb hK hP 2 0 rfl rfl (j := i) (by omega) hsz0 dX0_pay_25 ?_
  refine y_top ((by rw [w2_k, pk_us] : w2 C 0 i (mx 0 (C 0 i - v)) 0 i = mx 0 (C 0 i - v))) ?_
  refine lv_iload_n hx hb dX0_pay_26 rfl (lv_at hl 0 rfl) ?_
  refine lv_icmp_eq (tgt := 34) hx hb dX0_pay_27 (by decide) (fun c27 => ?_) (fun c27 => ?_)
  · skip
    refine lv_iconst (v := 0) hx hb dX0_pay_34 (by decide) ?_
    have hPf : va_P G vwCl (W0 k a (w2 C 0 i (mx 0 (C 0 i - v))) n0) H := by exact hP
    exact W.zret (v := 0) hx hb hr (by decide) (fun τ hτ hW => ⟨⟨_, (), rfl, (by first | exact (b2_f (fun h9 => h9 (by assumption))).symm | exact (b2_t (by assumption)).symm), yPt hPf hτ⟩, hS.F hτ⟩) hS.2.2 dX0_pay_35
  · skip
    refine lv_iconst (v := 1) hx hb dX0_pay_30 (by decide) ?_
    refine lv_goto (tgt := 35) hx hb dX0_pay_31 (by decide) ?_
    have hPf : va_P G vwCl (W0 k a (w2 C 0 i (mx 0 (C 0 i - v))) n0) H := by exact hP
    exact W.zret (v := 1) hx hb hr (by decide) (fun τ hτ hW => ⟨⟨_, (), rfl, (by first | exact (b2_f (fun h9 => h9 (by assumption))).symm | exact (b2_t (by assumption)).symm), yPt hPf hτ⟩, hS.F hτ⟩) hS.2.2 dX0_pay_35

set_option maxHeartbeats 4000000 in
set_option maxRecDepth 100000 in
theorem c_X0_endWait (l : Launch) (G : va_G) (k : Nat → ClassId) (a : Nat → Nat) (C : Nat → Nat → Int32) (n0 : Nat) (sz : Nat) (i : Nat) (hND : va_D (fun _ => True) (W0 k a C n0)) (hi : i < 8) (hw : C 4 i = 0 ∨ C 4 i = 1) : Met l yX0_endWait wsX0_endWait ({ frames := 0, cells := 0, slots := 0, locals := 0 }) (va_Pc [.ref (a 0), .int (nI i)] (yBs G (yT k) (W0 k a C n0) sz)) (va_Qi (fun (r : Int32) (_ : Unit) => r = C 4 i) (fun _ τ => va_P G vwCl (W0 k a (w2 C 4 i 0) n0) τ.heap) (va_A (W0 k a C n0) sz)) 0 0 (va_A (W0 k a C n0) sz) := by
  refine Met.ofW (cc := cX0_endWait) (maxL := 3) (ret := (some .boolean)) (by decide) rfl ?_
  intro p e s m args below meth c_ s₁ B hml hv
  obtain ⟨rfl, hsz, hP, hK⟩ := hv
  have hx := B.exec
  have hb := B.bytes
  have hr := B.returns
  have hts := atoms_spec (ws := wsX0_endWait) B.pre
  have hown : s.vm.findClass RX0 = some m.cls := findClass_of_methodNamed B.named
  have hlocks := B.notSynchronized
  have hsz0 : (8 : Nat) < 2 ^ 31 := by decide
  have hsz1 : (80 : Nat) < 2 ^ 31 := by decide
  subst hsz
  have hD := hND.self (sz := s.heap.size)
  generalize hAe : va_A (W0 k a C n0) s.heap.size = A at hD ⊢
  have hA : ∀ q : Nat, s.heap.size ≤ q → A q := fun q h => by rw [← hAe]; exact Or.inr h
  have hS : va_S A s.heap s.heap [] := va_S.rf
  have hinX0 : ∀ w ∈ u_ws RX0 TX0 7, w ∈ wsX0_endWait := by decide +kernel
  have fl27 := hts (.fieldLink RX0 27 "DunningDesk$CaseBook" "awaitsNote" "[Z") (by decide +kernel)
  have hl := lv_entry [.ref (a 0), .int (nI i)] (n := 3) (Nat.le_of_ble_eq_true rfl)
  rw [lg_entry_eq]
  generalize (lg_sl [.ref (a 0), .int (nI i)] ++ List.replicate (3 - (lg_sl [.ref (a 0), .int (nI i)]).length) Slot.unset).toArray = ls at hl ⊢
  have hl : lv_has ls 3 [(0, .ref (a 0)), (1, .int (nI i))] := hl
  refine lv_aload_n hx hb dX0_endWait_0 rfl (lv_at hl 0 rfl) ?_
  refine va_get (D := G) (ci := 2) (v := .ref (a 6)) (C := RX0) (T := TX0) (N := 7) hx hb hts hinX0 hown hK hP 0 rfl rfl 5 (by decide) fl27 (fun _ h9 => h9) rfl dX0_endWait_1 ?_
  refine lv_iload_n hx hb dX0_endWait_4 rfl (lv_at hl 1 rfl) ?_
  refine y_zald hx hb hK hP 6 1 rfl rfl (j := i) (by omega) hsz0 dX0_endWait_5 ?_
  refine lv_istore_n (lv' := [(2, .int (C 4 i)), (0, .ref (a 0)), (1, .int (nI i))]) hx hb dX0_endWait_6 rfl hl (by decide) rfl (fun ls hl => ?_)
  refine lv_aload_n hx hb dX0_endWait_7 rfl (lv_at hl 1 rfl) ?_
  refine va_get (D := G) (ci := 2) (v := .ref (a 6)) (C := RX0) (T := TX0) (N := 7) hx hb hts hinX0 hown hK hP 0 rfl rfl 5 (by decide) fl27 (fun _ h9 => h9) rfl dX0_endWait_8 ?_
  refine lv_iload_n hx hb dX0_endWait_11 rfl (lv_at hl 2 rfl) ?_
  refine lv_iconst (v := 0) hx hb dX0_endWait_12 (by decide) ?_
  refine y_zast (ws' := W0 k a (w2 C 4 i 0) n0) (j := i) (x := 0) hx hb hK hP hD hS 6 1 rfl rfl (by omega) hsz0 (by decide) rfl dX0_endWait_13 (fun H locs hP hD hS => ?_)
  refine lv_iload_n hx hb dX0_endWait_14 rfl (lv_at hl 0 rfl) ?_
  have hPf : va_P G vwCl (W0 k a (w2 C 4 i 0) n0) H := by exact hP
  exact W.zret (v := (C 4 i)) hx hb hr (by rcases hw with h9 | h9 <;> rw [h9] <;> rfl) (fun τ hτ hW => ⟨⟨_, (), rfl, (by rfl), yPt hPf hτ⟩, hS.F hτ⟩) hS.2.2 dX0_endWait_15

set_option maxHeartbeats 4000000 in
set_option maxRecDepth 100000 in
theorem c_X0_sendLetter (l : Launch) (G : va_G) (k : Nat → ClassId) (a : Nat → Nat) (C : Nat → Nat → Int32) (n0 : Nat) (sz : Nat) (i : Nat) (v : Int32) (hND : va_D (fun _ => True) (W0 k a C n0)) (hi : i < 8) : Met l yX0_sendLetter wsX0_sendLetter ({ frames := 1, cells := 0, slots := 0, locals := 21 }) (va_Pc [.ref (a 0), .int (nI i), .int v] (yBs G (yT k) (W0 k a C n0) sz)) (va_Qi (fun (r : Int32) (_ : Unit) => r = b2 (0 < C 0 i ∧ C 2 i = v)) (fun _ τ => va_P G vwCl (W0 k a (if 0 < C 0 i ∧ C 2 i = v then w2 C 2 i (C 2 i + 1) else C) n0) τ.heap) (va_A (W0 k a C n0) sz)) 0 0 (va_A (W0 k a C n0) sz) := by
  refine Met.ofW (cc := cX0_sendLetter) (maxL := 3) (ret := (some .boolean)) (by decide) rfl ?_
  intro p e s m args below meth c_ s₁ B hml hv
  obtain ⟨rfl, hsz, hP, hK⟩ := hv
  have hx := B.exec
  have hb := B.bytes
  have hr := B.returns
  have hts := atoms_spec (ws := wsX0_sendLetter) B.pre
  have hown : s.vm.findClass RX0 = some m.cls := findClass_of_methodNamed B.named
  have hlocks := B.notSynchronized
  have hsz0 : (8 : Nat) < 2 ^ 31 := by decide
  have hsz1 : (80 : Nat) < 2 ^ 31 := by decide
  subst hsz
  have hD := hND.self (sz := s.heap.size)
  generalize hAe : va_A (W0 k a C n0) s.heap.size = A at hD ⊢
  have hA : ∀ q : Nat, s.heap.size ≤ q → A q := fun q h => by rw [← hAe]; exact Or.inr h
  have hS : va_S A s.heap s.heap [] := va_S.rf
  have hinX0 : ∀ w ∈ u_ws RX0 TX0 7, w ∈ wsX0_sendLetter := by decide +kernel
  have fl21 := hts (.fieldLink RX0 21 "DunningDesk$CaseBook" "lettersSent" "[I") (by decide +kernel)
  have hl := lv_entry [.ref (a 0), .int (nI i), .int v] (n := 3) (Nat.le_of_ble_eq_true rfl)
  rw [lg_entry_eq]
  generalize (lg_sl [.ref (a 0), .int (nI i), .int v] ++ List.replicate (3 - (lg_sl [.ref (a 0), .int (nI i), .int v]).length) Slot.unset).toArray = ls at hl ⊢
  have hl : lv_has ls 3 [(0, .ref (a 0)), (1, .int (nI i)), (2, .int v)] := hl
  refine lv_aload_n hx hb dX0_sendLetter_0 rfl (lv_at hl 0 rfl) ?_
  refine lv_iload_n hx hb dX0_sendLetter_1 rfl (lv_at hl 1 rfl) ?_
  refine y_roV (As := [.int (nI i)]) (rest := []) ⟨hx, hb, hml, hown, hts⟩ (c_X0_isOpen l G k a C n0 i (by omega)) (cwV 1 hts gX0_sendLetter_X0_isOpen rfl rfl rfl (by decide +kernel) ⟨Nat.le_of_ble_eq_true rfl, Nat.le_of_ble_eq_true rfl⟩) hK hP (va_recv hK hP (ci := 2) (q0 := 0) rfl rfl) rfl hl.1 rfl (Nat.le_of_ble_eq_true rfl) dX0_sendLetter_2 ⟨Nat.le_of_ble_eq_true rfl, Nat.le_of_ble_eq_true rfl⟩ (fun r hr9 => ?_)
  subst hr9
  refine lv_if_eq (tgt := 18) hx hb dX0_sendLetter_5 (by decide) (fun c5 => ?_) (fun c5 => ?_)
  · replace c5 : ¬ (0 < C 0 i) := b2_of0 c5
    refine lv_iconst (v := 0) hx hb dX0_sendLetter_18 (by decide) ?_
    have hPf : va_P G vwCl (W0 k a (if 0 < C 0 i ∧ C 2 i = v then w2 C 2 i (C 2 i + 1) else C) n0) s.heap := by first | (rw [if_neg (fun h9 => absurd h9.1 (by assumption))]; exact hP) | (rw [if_neg (fun h9 => absurd h9.2 (by assumption))]; exact hP) | (rw [if_pos ⟨by assumption, by assumption⟩]; exact hP)
    exact W.zret (v := 0) hx hb hr (by decide) (fun τ hτ hW => ⟨⟨_, (), rfl, (by first | exact (b2_f (fun h9 => absurd h9.1 (by assumption))).symm | exact (b2_f (fun h9 => absurd h9.2 (by assumption))).symm | exact (b2_t ⟨by assumption, by assumption⟩).symm), yPt hPf hτ⟩, hS.F hτ⟩) hS.2.2 dX0_sendLetter_19
  · replace c5 : 0 < C 0 i := b2_of1 c5
    refine lv_aload_n hx hb dX0_sendLetter_8 rfl (lv_at hl 0 rfl) ?_
    refine va_get (D := G) (ci := 2) (v := .ref (a 4)) (C := RX0) (T := TX0) (N := 7) hx hb hts hinX0 hown hK hP 0 rfl rfl 3 (by decide) fl21 (fun _ h9 => h9) rfl dX0_sendLetter_9 ?_
    refine lv_iload_n hx hb dX0_sendLetter_12 rfl (lv_at hl 1 rfl) ?_
    refine y_iald hx hb hK hP 4 0 rfl rfl (j := i) (by omega) hsz0 dX0_sendLetter_13 ?_
    refine lv_iload_n hx hb dX0_sendLetter_14 rfl (lv_at hl 2 rfl) ?_
    refine lv_icmp_eq (tgt := 20) hx hb dX0_sendLetter_15 (by decide) (fun c15 => ?_) (fun c15 => ?_)
    · skip
      refine lv_aload_n hx hb dX0_sendLetter_20 rfl (lv_at hl 0 rfl) ?_
      refine va_get (D := G) (ci := 2) (v := .ref (a 4)) (C := RX0) (T := TX0) (N := 7) hx hb hts hinX0 hown hK hP 0 rfl rfl 3 (by decide) fl21 (fun _ h9 => h9) rfl dX0_sendLetter_21 ?_
      refine lv_iload_n hx hb dX0_sendLetter_24 rfl (lv_at hl 1 rfl) ?_
      refine lv_dup2_11 hx hb dX0_sendLetter_25 rfl rfl ?_
      refine y_iald hx hb hK hP 4 0 rfl rfl (j := i) (by omega) hsz0 dX0_sendLetter_26 ?_
      refine lv_iconst (v := 1) hx hb dX0_sendLetter_27 (by decide) ?_
      refine lv_iadd hx hb dX0_sendLetter_28 ?_
      refine y_iast (ws' := W0 k a (w2 C 2 i ((C 2 i) + 1)) n0) (j := i) (x := ((C 2 i) + 1)) hx hb hK hP hD hS 4 0 rfl rfl (by omega) hsz0 rfl dX0_sendLetter_29 (fun H locs hP hD hS => ?_)
      refine lv_iconst (v := 1) hx hb dX0_sendLetter_30 (by decide) ?_
      have hPf : va_P G vwCl (W0 k a (if 0 < C 0 i ∧ C 2 i = v then w2 C 2 i (C 2 i + 1) else C) n0) H := by first | (rw [if_neg (fun h9 => absurd h9.1 (by assumption))]; exact hP) | (rw [if_neg (fun h9 => absurd h9.2 (by assumption))]; exact hP) | (rw [if_pos ⟨by assumption, by assumption⟩]; exact hP)
      exact W.zret (v := 1) hx hb hr (by decide) (fun τ hτ hW => ⟨⟨_, (), rfl, (by first | exact (b2_f (fun h9 => absurd h9.1 (by assumption))).symm | exact (b2_f (fun h9 => absurd h9.2 (by assumption))).symm | exact (b2_t ⟨by assumption, by assumption⟩).symm), yPt hPf hτ⟩, hS.F hτ⟩) hS.2.2 dX0_sendLetter_31
    · skip
      refine lv_iconst (v := 0) hx hb dX0_sendLetter_18 (by decide) ?_
      have hPf : va_P G vwCl (W0 k a (if 0 < C 0 i ∧ C 2 i = v then w2 C 2 i (C 2 i + 1) else C) n0) s.heap := by first | (rw [if_neg (fun h9 => absurd h9.1 (by assumption))]; exact hP) | (rw [if_neg (fun h9 => absurd h9.2 (by assumption))]; exact hP) | (rw [if_pos ⟨by assumption, by assumption⟩]; exact hP)
      exact W.zret (v := 0) hx hb hr (by decide) (fun τ hτ hW => ⟨⟨_, (), rfl, (by first | exact (b2_f (fun h9 => absurd h9.1 (by assumption))).symm | exact (b2_f (fun h9 => absurd h9.2 (by assumption))).symm | exact (b2_t ⟨by assumption, by assumption⟩).symm), yPt hPf hτ⟩, hS.F hτ⟩) hS.2.2 dX0_sendLetter_19
