/-! what the messages' methods answer, as functions -/
def oI : Option Nat → Int32
  | none => -1
  | some j => nI j
theorem oI_none {o : Option Nat} (ho : ∀ j, o = some j → j < 80) (h : oI o = -1) : o = none := by
  cases o with
  | none => rfl
  | some j =>
    have h1 : nI j = -1 := h
    have h2 := nI_pos' (n := j) (by have := ho j rfl; omega)
    rw [h1] at h2
    exact absurd h2 (by decide)
theorem oI_some {o : Option Nat} (h : ¬ oI o = -1) : ∃ j, o = some j := by
  cases o with
  | none => exact absurd rfl h
  | some j => exact ⟨j, rfl⟩
def fnd (ks : Nat → Int32) (key : Int32) : Nat → Nat → Option Nat
  | 0, _ => none
  | r + 1, i => if ks i = key then some i else fnd ks key r (i + 1)
abbrev rdy (M : Nat → Nat → Int32) (q t : Int32) (z : Nat) : Prop := M 0 z = q ∧ M 5 z = 119 ∧ M 6 z ≤ t
abbrev gb (M : Nat → Nat → Int32) (i j : Nat) : Prop := M 6 i < M 6 j ∨ (M 6 i = M 6 j ∧ i < j)
def nst2 (M : Nat → Nat → Int32) (i : Nat) : Option Nat → Option Nat
  | none => some i
  | some j => if gb M i j then some i else some j
def nst (M : Nat → Nat → Int32) (q t : Int32) (i : Nat) (o : Option Nat) : Option Nat → Option Nat
  | none => if rdy M q t i then nst2 M i o else o
  | some j => if rdy M q t i then (if gb M j i then nst2 M i o else o) else o
def nxt (M : Nat → Nat → Int32) (q t : Int32) (pv : Option Nat) : Nat → Nat → Option Nat → Option Nat
  | 0, _, o => o
  | r + 1, i, o => nxt M q t pv r (i + 1) (nst M q t i o pv)
theorem nxt_1 {M : Nat → Nat → Int32} {q t : Int32} {pv : Option Nat} {r i : Nat} {o o' : Option Nat} (h : nst M q t i o pv = o') : nxt M q t pv (r + 1) i o = nxt M q t pv r (i + 1) o' := by rw [← h]; rfl
theorem nst_r {M : Nat → Nat → Int32} {q t : Int32} {i : Nat} {o pv : Option Nat} (h : ¬ rdy M q t i) : nst M q t i o pv = o := by cases pv <;> exact if_neg h
theorem nst_n {M : Nat → Nat → Int32} {q t : Int32} {i : Nat} {o : Option Nat} (h : rdy M q t i) : nst M q t i o none = nst2 M i o := if_pos h
theorem nst_s {M : Nat → Nat → Int32} {q t : Int32} {i j : Nat} {o : Option Nat} (h : rdy M q t i) (h2 : gb M j i) : nst M q t i o (some j) = nst2 M i o := by show (if rdy M q t i then _ else _) = _; rw [if_pos h, if_pos h2]
theorem nst_k {M : Nat → Nat → Int32} {q t : Int32} {i j : Nat} {o : Option Nat} (h : rdy M q t i) (h2 : ¬ gb M j i) : nst M q t i o (some j) = o := by show (if rdy M q t i then _ else _) = _; rw [if_pos h, if_neg h2]
theorem nst2_s {M : Nat → Nat → Int32} {i j : Nat} (h : gb M i j) : nst2 M i (some j) = some i := if_pos h
theorem nst2_k {M : Nat → Nat → Int32} {i j : Nat} (h : ¬ gb M i j) : nst2 M i (some j) = some j := if_neg h
def madd (M : Nat → Nat → Int32) (n : Nat) (q key kd cs ct t : Int32) : Nat → Nat → Int32 := w2 (w2 (w2 (w2 (w2 (w2 (w2 M 0 n q) 1 n key) 2 n kd) 3 n cs) 4 n ct) 6 n t) 5 n 119
def rst (cs t : Int32) (i : Nat) (M : Nat → Nat → Int32) : Nat → Nat → Int32 := if M 5 i = 104 ∧ M 3 i = cs then w2 (w2 M 5 i 119) 6 i (mx (M 6 i) t) else M
def rel (cs t : Int32) : Nat → Nat → (Nat → Nat → Int32) → Nat → Nat → Int32
  | 0, _, M => M
  | r + 1, i, M => rel cs t r (i + 1) (rst cs t i M)
theorem rel_1 {cs t : Int32} {r i : Nat} {M N : Nat → Nat → Int32} (h : rst cs t i M = N) : rel cs t (r + 1) i M = rel cs t r (i + 1) N := by rw [← h]; rfl
def pb (M : Nat → Nat → Int32) (i : Nat) (t : Int32) : Nat → Nat → Int32 := if M 7 i + 1 < 3 then w2 (w2 (w2 M 7 i (M 7 i + 1)) 5 i 119) 6 i (t + 2 * (M 7 i + 1)) else w2 (w2 M 7 i (M 7 i + 1)) 5 i 120
def pst (la t : Int32) (i : Nat) (M : Nat → Nat → Int32) : Nat → Nat → Int32 := if M 5 i = 116 ∧ M 9 i ≤ la then pb M i t else M
def pbk (la t : Int32) : Nat → Nat → (Nat → Nat → Int32) → Nat → Nat → Int32
  | 0, _, M => M
  | r + 1, i, M => pbk la t r (i + 1) (pst la t i M)
theorem pbk_1 {la t : Int32} {r i : Nat} {M N : Nat → Nat → Int32} (h : pst la t i M = N) : pbk la t (r + 1) i M = pbk la t r (i + 1) N := by rw [← h]; rfl
/-- one done message played again: what is owed then, and how many letters were sent -/
def lst (M : Nat → Nat → Int32) (cs : Int32) (n : Nat) (x : Int32) (u : Int32 × Nat) : Int32 × Nat :=
  if inR x n ∧ M 3 x.toNatClampNeg = cs then
    (if M 2 x.toNatClampNeg = 112 then (mx 0 (u.1 - M 4 x.toNatClampNeg), u.2)
    else if M 2 x.toNatClampNeg = 114 ∧ 0 < u.1 ∧ M 4 x.toNatClampNeg = nI u.2 then (u.1, u.2 + 1) else u)
  else u
def lfr (M : Nat → Nat → Int32) (cs : Int32) (n : Nat) : Nat → Nat → Int32 × Nat → Int32 × Nat
  | 0, _, u => u
  | r + 1, p, u => lfr M cs n r (p + 1) (lst M cs n (M 10 p) u)
theorem lfr_1 {M : Nat → Nat → Int32} {cs : Int32} {n r p : Nat} {u v : Int32 × Nat} (h : lst M cs n (M 10 p) u = v) : lfr M cs n (r + 1) p u = lfr M cs n r (p + 1) v := by rw [← h]; rfl
set_option maxHeartbeats 4000000 in
set_option maxRecDepth 100000 in
theorem c_X1_contains (l : Launch) (G : va_G) (k : Nat → ClassId) (c : Nat → Nat) (M : Nat → Nat → Int32) (ds : Nat) (n1 : Nat) (x : Int32) (hn : n1 ≤ 80) : Met l yX1_contains wsX1_contains ({ frames := 0, cells := 0, slots := 0, locals := 0 }) (va_Pc [.ref (c 0), .int x] (yB G (yT k) (W1 k c M ds n1))) (vp_Si (fun r => r = b2 (inR x n1))) 0 0 (fun _ => False) := by
  refine Met.ofW (cc := cX1_contains) (maxL := 2) (ret := (some .boolean)) (by decide) rfl ?_
  intro p e s m args below meth c_ s₁ B hml hv
  obtain ⟨rfl, hP, hK⟩ := hv
  have hx := B.exec
  have hb := B.bytes
  have hr := B.returns
  have hts := atoms_spec (ws := wsX1_contains) B.pre
  have hown : s.vm.findClass RX1 = some m.cls := findClass_of_methodNamed B.named
  have hlocks := B.notSynchronized
  have hsz0 : (8 : Nat) < 2 ^ 31 := by decide
  have hsz1 : (80 : Nat) < 2 ^ 31 := by decide
  have hinX1 : ∀ w ∈ u_ws RX1 TX1 13, w ∈ wsX1_contains := by decide +kernel
  have fl46 := hts (.fieldLink RX1 46 "DunningDesk$MessageBook" "size" "I") (by decide +kernel)
  have hl := lv_entry [.ref (c 0), .int x] (n := 2) (Nat.le_of_ble_eq_true rfl)
  rw [lg_entry_eq]
  generalize (lg_sl [.ref (c 0), .int x] ++ List.replicate (2 - (lg_sl [.ref (c 0), .int x]).length) Slot.unset).toArray = ls at hl ⊢
  have hl : lv_has ls 2 [(0, .ref (c 0)), (1, .int x)] := hl
  refine lv_iload_n hx hb dX1_contains_0 rfl (lv_at hl 1 rfl) ?_
  refine lv_if_lt (tgt := 16) hx hb dX1_contains_1 (by decide) (fun c1 => ?_) (fun c1 => ?_)
  · skip
    refine lv_iconst (v := 0) hx hb dX1_contains_16 (by decide) ?_
    exact W.zret (v := 0) hx hb hr (by decide) (fun τ hτ _ => ⟨_, rfl, (by first | exact (b2_f (fun h9 => h9.1 (by assumption))).symm | exact (b2_f (fun h9 => absurd h9.2 (Int32.not_lt.mpr (by assumption)))).symm | exact (b2_t ⟨by assumption, Int32.not_le.mp (by assumption)⟩).symm), hτ⟩) (fun _ h9 => nomatch h9) dX1_contains_17
  · skip
    refine lv_iload_n hx hb dX1_contains_4 rfl (lv_at hl 1 rfl) ?_
    refine lv_aload_n hx hb dX1_contains_5 rfl (lv_at hl 0 rfl) ?_
    refine va_get (D := G) (ci := 3) (v := .int (nI n1)) (C := RX1) (T := TX1) (N := 13) hx hb hts hinX1 hown hK hP 0 rfl rfl 12 (by decide) fl46 (fun _ h9 => h9) rfl dX1_contains_6 ?_
    refine lv_icmp_ge (tgt := 16) hx hb dX1_contains_9 (by decide) (fun c9 => ?_) (fun c9 => ?_)
    · skip
      refine lv_iconst (v := 0) hx hb dX1_contains_16 (by decide) ?_
      exact W.zret (v := 0) hx hb hr (by decide) (fun τ hτ _ => ⟨_, rfl, (by first | exact (b2_f (fun h9 => h9.1 (by assumption))).symm | exact (b2_f (fun h9 => absurd h9.2 (Int32.not_lt.mpr (by assumption)))).symm | exact (b2_t ⟨by assumption, Int32.not_le.mp (by assumption)⟩).symm), hτ⟩) (fun _ h9 => nomatch h9) dX1_contains_17
    · skip
      refine lv_iconst (v := 1) hx hb dX1_contains_12 (by decide) ?_
      refine lv_goto (tgt := 17) hx hb dX1_contains_13 (by decide) ?_
      exact W.zret (v := 1) hx hb hr (by decide) (fun τ hτ _ => ⟨_, rfl, (by first | exact (b2_f (fun h9 => h9.1 (by assumption))).symm | exact (b2_f (fun h9 => absurd h9.2 (Int32.not_lt.mpr (by assumption)))).symm | exact (b2_t ⟨by assumption, Int32.not_le.mp (by assumption)⟩).symm), hτ⟩) (fun _ h9 => nomatch h9) dX1_contains_17

set_option maxHeartbeats 4000000 in
set_option maxRecDepth 100000 in
theorem c_X1_isFull (l : Launch) (G : va_G) (k : Nat → ClassId) (c : Nat → Nat) (M : Nat → Nat → Int32) (ds : Nat) (n1 : Nat)  (hn : n1 ≤ 80) : Met l yX1_isFull wsX1_isFull ({ frames := 0, cells := 0, slots := 0, locals := 0 }) (va_Pc [.ref (c 0)] (yB G (yT k) (W1 k c M ds n1))) (vp_Si (fun r => r = b2 (80 ≤ n1))) 0 0 (fun _ => False) := by
  refine Met.ofW (cc := cX1_isFull) (maxL := 1) (ret := (some .boolean)) (by decide) rfl ?_
  intro p e s m args below meth c_ s₁ B hml hv
  obtain ⟨rfl, hP, hK⟩ := hv
  have hx := B.exec
  have hb := B.bytes
  have hr := B.returns
  have hts := atoms_spec (ws := wsX1_isFull) B.pre
  have hown : s.vm.findClass RX1 = some m.cls := findClass_of_methodNamed B.named
  have hlocks := B.notSynchronized
  have hsz0 : (8 : Nat) < 2 ^ 31 := by decide
  have hsz1 : (80 : Nat) < 2 ^ 31 := by decide
  have hinX1 : ∀ w ∈ u_ws RX1 TX1 13, w ∈ wsX1_isFull := by decide +kernel
  have fl46 := hts (.fieldLink RX1 46 "DunningDesk$MessageBook" "size" "I") (by decide +kernel)
  have hl := lv_entry [.ref (c 0)] (n := 1) (Nat.le_of_ble_eq_true rfl)
  rw [lg_entry_eq]
  generalize (lg_sl [.ref (c 0)] ++ List.replicate (1 - (lg_sl [.ref (c 0)]).length) Slot.unset).toArray = ls at hl ⊢
  have hl : lv_has ls 1 [(0, .ref (c 0))] := hl
  refine lv_aload_n hx hb dX1_isFull_0 rfl (lv_at hl 0 rfl) ?_
  refine va_get (D := G) (ci := 3) (v := .int (nI n1)) (C := RX1) (T := TX1) (N := 13) hx hb hts hinX1 hown hK hP 0 rfl rfl 12 (by decide) fl46 (fun _ h9 => h9) rfl dX1_isFull_1 ?_
  refine lv_bipush (v := 80) hx hb dX1_isFull_4 (by decide) ?_
  refine lv_icmp_lt (tgt := 13) hx hb dX1_isFull_6 (by decide) (fun c6 => ?_) (fun c6 => ?_)
  · replace c6 : n1 < 80 := (nI_ltI (a := n1) (b := 80) (by omega) (by omega)).mp c6
    refine lv_iconst (v := 0) hx hb dX1_isFull_13 (by decide) ?_
    exact W.zret (v := 0) hx hb hr (by decide) (fun τ hτ _ => ⟨_, rfl, (by first | exact (b2_f (by omega)).symm | exact (b2_t (by omega)).symm), hτ⟩) (fun _ h9 => nomatch h9) dX1_isFull_14
  · replace c6 : ¬ n1 < 80 := fun h9 => c6 ((nI_ltI (a := n1) (b := 80) (by omega) (by omega)).mpr h9)
    refine lv_iconst (v := 1) hx hb dX1_isFull_9 (by decide) ?_
    refine lv_goto (tgt := 14) hx hb dX1_isFull_10 (by decide) ?_
    exact W.zret (v := 1) hx hb hr (by decide) (fun τ hτ _ => ⟨_, rfl, (by first | exact (b2_f (by omega)).symm | exact (b2_t (by omega)).symm), hτ⟩) (fun _ h9 => nomatch h9) dX1_isFull_14

set_option maxHeartbeats 4000000 in
set_option maxRecDepth 100000 in
theorem c_X1_find (l : Launch) (G : va_G) (k : Nat → ClassId) (c : Nat → Nat) (M : Nat → Nat → Int32) (ds : Nat) (n1 : Nat) (key : Int32) (hn : n1 ≤ 80) : Met l yX1_find wsX1_find ({ frames := 0, cells := 0, slots := 0, locals := 0 }) (va_Pc [.ref (c 0), .int key] (yB G (yT k) (W1 k c M ds n1))) (vp_Si (fun r => r = oI (fnd (M 1) key n1 0))) 0 0 (fun _ => False) := by
  refine Met.ofW (cc := cX1_find) (maxL := 3) (ret := (some .int)) (by decide) rfl ?_
  intro p e s m args below meth c_ s₁ B hml hv
  obtain ⟨rfl, hP, hK⟩ := hv
  have hx := B.exec
  have hb := B.bytes
  have hr := B.returns
  have hts := atoms_spec (ws := wsX1_find) B.pre
  have hown : s.vm.findClass RX1 = some m.cls := findClass_of_methodNamed B.named
  have hlocks := B.notSynchronized
  have hsz0 : (8 : Nat) < 2 ^ 31 := by decide
  have hsz1 : (80 : Nat) < 2 ^ 31 := by decide
  have hinX1 : ∀ w ∈ u_ws RX1 TX1 13, w ∈ wsX1_find := by decide +kernel
  have fl46 := hts (.fieldLink RX1 46 "DunningDesk$MessageBook" "size" "I") (by decide +kernel)
  have fl15 := hts (.fieldLink RX1 15 "DunningDesk$MessageBook" "keys" "[I") (by decide +kernel)
  have hl := lv_entry [.ref (c 0), .int key] (n := 3) (Nat.le_of_ble_eq_true rfl)
  rw [lg_entry_eq]
  generalize (lg_sl [.ref (c 0), .int key] ++ List.replicate (3 - (lg_sl [.ref (c 0), .int key]).length) Slot.unset).toArray = ls at hl ⊢
  have hl : lv_has ls 3 [(0, .ref (c 0)), (1, .int key)] := hl
  refine lv_iconst (v := 0) hx hb dX1_find_0 (by decide) ?_
  refine lv_istore_n (lv' := [(2, .int 0), (0, .ref (c 0)), (1, .int key)]) hx hb dX1_find_1 rfl hl (by decide) rfl (fun ls hl => ?_)
  have hl : lv_has ls 3 [(2, .int (nI 0)), (0, .ref (c 0)), (1, .int key)] := lv_sub hl [0, 1, 2] rfl
  refine y_loop (σ := Nat) (fun r xσ H locs ls => xσ + r = n1 ∧ fnd (M 1) key n1 0 = fnd (M 1) key r xσ ∧ H = s.heap ∧ locs = [] ∧ lv_has ls 3 [(2, .int (nI xσ)), (0, .ref (c 0)), (1, .int key)]) (fun r xσ H locs ls hI ih2 => ?_) n1 0 _ _ _ ⟨(by omega), rfl, rfl, rfl, hl⟩
  obtain ⟨i, rfl⟩ : ∃ z, z = xσ := ⟨xσ, rfl⟩
  obtain ⟨hi, hv, rfl, rfl, hl⟩ := hI
  refine lv_iload_n hx hb dX1_find_2 rfl (lv_at hl 0 rfl) ?_
  refine lv_aload_n hx hb dX1_find_3 rfl (lv_at hl 1 rfl) ?_
  refine va_get (D := G) (ci := 3) (v := .int (nI n1)) (C := RX1) (T := TX1) (N := 13) hx hb hts hinX1 hown hK hP 0 rfl rfl 12 (by decide) fl46 (fun _ h9 => h9) rfl dX1_find_4 ?_
  refine lv_icmp_ge (tgt := 28) hx hb dX1_find_7 (by decide) (fun c7 => ?_) (fun c7 => ?_)
  · replace c7 : n1 ≤ i := (nI_leI (a := n1) (b := i) (by omega) (by omega)).mp c7
    refine lv_iconst (v := (-1)) hx hb dX1_find_28 (by decide) ?_
    exact W.iret (v := (-1)) hx hb hr (fun τ hτ _ => ⟨_, rfl, (by (obtain rfl : r = 0 := by omega); rw [hv]; rfl), hτ⟩) (fun _ h9 => nomatch h9) dX1_find_29
  · replace c7 : ¬ n1 ≤ i := fun h9 => c7 ((nI_leI (a := n1) (b := i) (by omega) (by omega)).mpr h9)
    obtain ⟨r', rfl⟩ : ∃ r', r = r' + 1 := ⟨r - 1, by omega⟩
    refine lv_aload_n hx hb dX1_find_10 rfl (lv_at hl 1 rfl) ?_
    refine va_get (D := G) (ci := 3) (v := .ref (c 2)) (C := RX1) (T := TX1) (N := 13) hx hb hts hinX1 hown hK hP 0 rfl rfl 1 (by decide) fl15 (fun _ h9 => h9) rfl dX1_find_11 ?_
    refine lv_iload_n hx hb dX1_find_14 rfl (lv_at hl 0 rfl) ?_
    refine y_iald hx hb hK hP 2 0 rfl rfl (j := i) (by omega) hsz1 dX1_find_15 ?_
    refine lv_iload_n hx hb dX1_find_16 rfl (lv_at hl 2 rfl) ?_
    refine lv_icmp_ne (tgt := 22) hx hb dX1_find_17 (by decide) (fun c17 => ?_) (fun c17 => ?_)
    · skip
      refine lv_iinc (v := nI (i + 1)) (lv' := [(2, .int (nI (i + 1))), (0, .ref (c 0)), (1, .int key)]) hx hb dX1_find_22 hl (k := 0) rfl (nI_1 i) (by decide) rfl (fun ls hl => ?_)
      refine lv_goto (tgt := 2) hx hb dX1_find_25 (by decide) ?_
      exact ih2 r' (i + 1) _ _ _ (by omega) ⟨(by omega), (by rw [hv]; exact if_neg c17), rfl, rfl, lv_sub hl [0, 1, 2] rfl⟩
    · skip
      refine lv_iload_n hx hb dX1_find_20 rfl (lv_at hl 0 rfl) ?_
      exact W.iret (v := (nI i)) hx hb hr (fun τ hτ _ => ⟨_, rfl, (by rw [hv]; show nI i = oI (if M 1 i = key then _ else _); rw [if_pos c17]; rfl), hτ⟩) (fun _ h9 => nomatch h9) dX1_find_21

set_option maxHeartbeats 4000000 in
set_option maxRecDepth 100000 in
theorem c_X1_isReady (l : Launch) (G : va_G) (k : Nat → ClassId) (c : Nat → Nat) (M : Nat → Nat → Int32) (ds : Nat) (n1 : Nat) (i : Nat) (q t : Int32) (hi : i < 80) : Met l yX1_isReady wsX1_isReady ({ frames := 0, cells := 0, slots := 0, locals := 0 }) (va_Pc [.ref (c 0), .int (nI i), .int q, .int t] (yB G (yT k) (W1 k c M ds n1))) (vp_Si (fun r => r = b2 (rdy M q t i))) 0 0 (fun _ => False) := by
  refine Met.ofW (cc := cX1_isReady) (maxL := 4) (ret := (some .boolean)) (by decide) rfl ?_
  intro p e s m args below meth c_ s₁ B hml hv
  obtain ⟨rfl, hP, hK⟩ := hv
  have hx := B.exec
  have hb := B.bytes
  have hr := B.returns
  have hts := atoms_spec (ws := wsX1_isReady) B.pre
  have hown : s.vm.findClass RX1 = some m.cls := findClass_of_methodNamed B.named
  have hlocks := B.notSynchronized
  have hsz0 : (8 : Nat) < 2 ^ 31 := by decide
  have hsz1 : (80 : Nat) < 2 ^ 31 := by decide
  have hinX1 : ∀ w ∈ u_ws RX1 TX1 13, w ∈ wsX1_isReady := by decide +kernel
  have fl9 := hts (.fieldLink RX1 9 "DunningDesk$MessageBook" "queues" "[I") (by decide +kernel)
  have fl28 := hts (.fieldLink RX1 28 "DunningDesk$MessageBook" "states" "[C") (by decide +kernel)
  have fl31 := hts (.fieldLink RX1 31 "DunningDesk$MessageBook" "readyDays" "[I") (by decide +kernel)
  have hl := lv_entry [.ref (c 0), .int (nI i), .int q, .int t] (n := 4) (Nat.le_of_ble_eq_true rfl)
  rw [lg_entry_eq]
  generalize (lg_sl [.ref (c 0), .int (nI i), .int q, .int t] ++ List.replicate (4 - (lg_sl [.ref (c 0), .int (nI i), .int q, .int t]).length) Slot.unset).toArray = ls at hl ⊢
  have hl : lv_has ls 4 [(0, .ref (c 0)), (1, .int (nI i)), (2, .int q), (3, .int t)] := hl
  refine lv_aload_n hx hb dX1_isReady_0 rfl (lv_at hl 0 rfl) ?_
  refine va_get (D := G) (ci := 3) (v := .ref (c 1)) (C := RX1) (T := TX1) (N := 13) hx hb hts hinX1 hown hK hP 0 rfl rfl 0 (by decide) fl9 (fun _ h9 => h9) rfl dX1_isReady_1 ?_
  refine lv_iload_n hx hb dX1_isReady_4 rfl (lv_at hl 1 rfl) ?_
  refine y_iald hx hb hK hP 1 0 rfl rfl (j := i) (by omega) hsz1 dX1_isReady_5 ?_
  refine lv_iload_n hx hb dX1_isReady_6 rfl (lv_at hl 2 rfl) ?_
  refine lv_icmp_ne (tgt := 35) hx hb dX1_isReady_7 (by decide) (fun c7 => ?_) (fun c7 => ?_)
  · skip
    refine lv_iconst (v := 0) hx hb dX1_isReady_35 (by decide) ?_
    exact W.zret (v := 0) hx hb hr (by decide) (fun τ hτ _ => ⟨_, rfl, (by first | exact (b2_f (fun h9 => absurd h9.1 (by assumption))).symm | exact (b2_f (fun h9 => absurd h9.2.1 (by assumption))).symm | exact (b2_f (fun h9 => absurd h9.2.2 (Int32.not_le.mpr (by assumption)))).symm | exact (b2_t ⟨by assumption, by assumption, Int32.not_lt.mp (by assumption)⟩).symm), hτ⟩) (fun _ h9 => nomatch h9) dX1_isReady_36
  · skip
    refine lv_aload_n hx hb dX1_isReady_10 rfl (lv_at hl 0 rfl) ?_
    refine va_get (D := G) (ci := 3) (v := .ref (c 6)) (C := RX1) (T := TX1) (N := 13) hx hb hts hinX1 hown hK hP 0 rfl rfl 5 (by decide) fl28 (fun _ h9 => h9) rfl dX1_isReady_11 ?_
    refine lv_iload_n hx hb dX1_isReady_14 rfl (lv_at hl 1 rfl) ?_
    refine y_cald hx hb hK hP 6 2 rfl rfl (j := i) (by omega) hsz1 dX1_isReady_15 ?_
    refine lv_bipush (v := 119) hx hb dX1_isReady_16 (by decide) ?_
    refine lv_icmp_ne (tgt := 35) hx hb dX1_isReady_18 (by decide) (fun c18 => ?_) (fun c18 => ?_)
    · skip
      refine lv_iconst (v := 0) hx hb dX1_isReady_35 (by decide) ?_
      exact W.zret (v := 0) hx hb hr (by decide) (fun τ hτ _ => ⟨_, rfl, (by first | exact (b2_f (fun h9 => absurd h9.1 (by assumption))).symm | exact (b2_f (fun h9 => absurd h9.2.1 (by assumption))).symm | exact (b2_f (fun h9 => absurd h9.2.2 (Int32.not_le.mpr (by assumption)))).symm | exact (b2_t ⟨by assumption, by assumption, Int32.not_lt.mp (by assumption)⟩).symm), hτ⟩) (fun _ h9 => nomatch h9) dX1_isReady_36
    · skip
      refine lv_aload_n hx hb dX1_isReady_21 rfl (lv_at hl 0 rfl) ?_
      refine va_get (D := G) (ci := 3) (v := .ref (c 7)) (C := RX1) (T := TX1) (N := 13) hx hb hts hinX1 hown hK hP 0 rfl rfl 6 (by decide) fl31 (fun _ h9 => h9) rfl dX1_isReady_22 ?_
      refine lv_iload_n hx hb dX1_isReady_25 rfl (lv_at hl 1 rfl) ?_
      refine y_iald hx hb hK hP 7 0 rfl rfl (j := i) (by omega) hsz1 dX1_isReady_26 ?_
      refine lv_iload_n hx hb dX1_isReady_27 rfl (lv_at hl 3 rfl) ?_
      refine lv_icmp_gt (tgt := 35) hx hb dX1_isReady_28 (by decide) (fun c28 => ?_) (fun c28 => ?_)
      · skip
        refine lv_iconst (v := 0) hx hb dX1_isReady_35 (by decide) ?_
        exact W.zret (v := 0) hx hb hr (by decide) (fun τ hτ _ => ⟨_, rfl, (by first | exact (b2_f (fun h9 => absurd h9.1 (by assumption))).symm | exact (b2_f (fun h9 => absurd h9.2.1 (by assumption))).symm | exact (b2_f (fun h9 => absurd h9.2.2 (Int32.not_le.mpr (by assumption)))).symm | exact (b2_t ⟨by assumption, by assumption, Int32.not_lt.mp (by assumption)⟩).symm), hτ⟩) (fun _ h9 => nomatch h9) dX1_isReady_36
      · skip
        refine lv_iconst (v := 1) hx hb dX1_isReady_31 (by decide) ?_
        refine lv_goto (tgt := 36) hx hb dX1_isReady_32 (by decide) ?_
        exact W.zret (v := 1) hx hb hr (by decide) (fun τ hτ _ => ⟨_, rfl, (by first | exact (b2_f (fun h9 => absurd h9.1 (by assumption))).symm | exact (b2_f (fun h9 => absurd h9.2.1 (by assumption))).symm | exact (b2_f (fun h9 => absurd h9.2.2 (Int32.not_le.mpr (by assumption)))).symm | exact (b2_t ⟨by assumption, by assumption, Int32.not_lt.mp (by assumption)⟩).symm), hτ⟩) (fun _ h9 => nomatch h9) dX1_isReady_36

set_option maxHeartbeats 4000000 in
set_option maxRecDepth 100000 in
theorem c_X1_countReady (l : Launch) (G : va_G) (k : Nat → ClassId) (c : Nat → Nat) (M : Nat → Nat → Int32) (ds : Nat) (n1 : Nat) (q t : Int32) (hn : n1 ≤ 80) : Met l yX1_countReady wsX1_countReady ({ frames := 1, cells := 0, slots := 0, locals := 23 }) (va_Pc [.ref (c 0), .int q, .int t] (yB G (yT k) (W1 k c M ds n1))) (vp_Si (fun r => r = nI (cnt (fun z => decide (rdy M q t z)) n1 0 0))) 0 0 (fun _ => False) := by
  refine Met.ofW (cc := cX1_countReady) (maxL := 5) (ret := (some .int)) (by decide) rfl ?_
  intro p e s m args below meth c_ s₁ B hml hv
  obtain ⟨rfl, hP, hK⟩ := hv
  have hx := B.exec
  have hb := B.bytes
  have hr := B.returns
  have hts := atoms_spec (ws := wsX1_countReady) B.pre
  have hown : s.vm.findClass RX1 = some m.cls := findClass_of_methodNamed B.named
  have hlocks := B.notSynchronized
  have hsz0 : (8 : Nat) < 2 ^ 31 := by decide
  have hsz1 : (80 : Nat) < 2 ^ 31 := by decide
  have hinX1 : ∀ w ∈ u_ws RX1 TX1 13, w ∈ wsX1_countReady := by decide +kernel
  have fl46 := hts (.fieldLink RX1 46 "DunningDesk$MessageBook" "size" "I") (by decide +kernel)
  have hl := lv_entry [.ref (c 0), .int q, .int t] (n := 5) (Nat.le_of_ble_eq_true rfl)
  rw [lg_entry_eq]
  generalize (lg_sl [.ref (c 0), .int q, .int t] ++ List.replicate (5 - (lg_sl [.ref (c 0), .int q, .int t]).length) Slot.unset).toArray = ls at hl ⊢
  have hl : lv_has ls 5 [(0, .ref (c 0)), (1, .int q), (2, .int t)] := hl
  refine lv_iconst (v := 0) hx hb dX1_countReady_0 (by decide) ?_
  refine lv_istore_n (lv' := [(3, .int 0), (0, .ref (c 0)), (1, .int q), (2, .int t)]) hx hb dX1_countReady_1 rfl hl (by decide) rfl (fun ls hl => ?_)
  refine lv_iconst (v := 0) hx hb dX1_countReady_2 (by decide) ?_
  refine lv_istore (lv' := [(4, .int 0), (3, .int 0), (0, .ref (c 0)), (1, .int q), (2, .int t)]) hx hb dX1_countReady_3 hl (by decide) rfl (fun ls hl => ?_)
  have hl : lv_has ls 5 [(4, .int (nI 0)), (3, .int (nI 0)), (0, .ref (c 0)), (1, .int q), (2, .int t)] := lv_sub hl [0, 1, 2, 3, 4] rfl
  refine y_loop (σ := Nat × Nat) (fun r xσ H locs ls => xσ.1 + r = n1 ∧ xσ.2 ≤ xσ.1 ∧ cnt (fun z => decide (rdy M q t z)) n1 0 0 = cnt (fun z => decide (rdy M q t z)) r xσ.1 xσ.2 ∧ H = s.heap ∧ locs = [] ∧ lv_has ls 5 [(4, .int (nI xσ.1)), (3, .int (nI xσ.2)), (0, .ref (c 0)), (1, .int q), (2, .int t)]) (fun r xσ H locs ls hI ih5 => ?_) n1 (0, 0) _ _ _ ⟨(by omega), (by omega), rfl, rfl, rfl, hl⟩
  obtain ⟨i, o⟩ := xσ
  obtain ⟨hi, ho, hv, rfl, rfl, hl⟩ := hI
  dsimp only at hi ho hv hl
  refine lv_iload hx hb dX1_countReady_5 (lv_at hl 0 rfl) ?_
  refine lv_aload_n hx hb dX1_countReady_7 rfl (lv_at hl 2 rfl) ?_
  refine va_get (D := G) (ci := 3) (v := .int (nI n1)) (C := RX1) (T := TX1) (N := 13) hx hb hts hinX1 hown hK hP 0 rfl rfl 12 (by decide) fl46 (fun _ h9 => h9) rfl dX1_countReady_8 ?_
  refine lv_icmp_ge (tgt := 34) hx hb dX1_countReady_11 (by decide) (fun c11 => ?_) (fun c11 => ?_)
  · replace c11 : n1 ≤ i := (nI_leI (a := n1) (b := i) (by omega) (by omega)).mp c11
    refine lv_iload_n hx hb dX1_countReady_34 rfl (lv_at hl 1 rfl) ?_
    exact W.iret (v := (nI o)) hx hb hr (fun τ hτ _ => ⟨_, rfl, (by (obtain rfl : r = 0 := by omega); rw [hv]; rfl), hτ⟩) (fun _ h9 => nomatch h9) dX1_countReady_35
  · replace c11 : ¬ n1 ≤ i := fun h9 => c11 ((nI_leI (a := n1) (b := i) (by omega) (by omega)).mpr h9)
    obtain ⟨r', rfl⟩ : ∃ r', r = r' + 1 := ⟨r - 1, by omega⟩
    refine lv_aload_n hx hb dX1_countReady_14 rfl (lv_at hl 2 rfl) ?_
    refine lv_iload hx hb dX1_countReady_15 (lv_at hl 0 rfl) ?_
    refine lv_iload_n hx hb dX1_countReady_17 rfl (lv_at hl 3 rfl) ?_
    refine lv_iload_n hx hb dX1_countReady_18 rfl (lv_at hl 4 rfl) ?_
    refine y_roV (As := [.int (nI i), .int q, .int t]) (rest := []) ⟨hx, hb, hml, hown, hts⟩ (c_X1_isReady l G k c M ds n1 i q t (by omega)) (cwV 3 hts gX1_countReady_X1_isReady rfl rfl rfl (by decide +kernel) ⟨Nat.le_of_ble_eq_true rfl, Nat.le_of_ble_eq_true rfl⟩) hK hP (va_recv hK hP (ci := 3) (q0 := 0) rfl rfl) rfl hl.1 rfl (Nat.le_of_ble_eq_true rfl) dX1_countReady_19 ⟨Nat.le_of_ble_eq_true rfl, Nat.le_of_ble_eq_true rfl⟩ (fun r hr9 => ?_)
    subst hr9
    refine lv_if_eq (tgt := 28) hx hb dX1_countReady_22 (by decide) (fun c22 => ?_) (fun c22 => ?_)
    · replace c22 : ¬ (rdy M q t i) := b2_of0 c22
      refine lv_iinc (v := nI (i + 1)) (lv' := [(4, .int (nI (i + 1))), (3, .int (nI o)), (0, .ref (c 0)), (1, .int q), (2, .int t)]) hx hb dX1_countReady_28 hl (k := 0) rfl (nI_1 i) (by decide) rfl (fun ls hl => ?_)
      refine lv_goto (tgt := 5) hx hb dX1_countReady_31 (by decide) ?_
      exact ih5 r' (i + 1, o) _ _ _ (by omega) ⟨(by omega), (by omega), (by rw [hv]; first | exact cnt_t (decide_eq_true c22) | exact cnt_f (decide_eq_false c22)), rfl, rfl, lv_sub hl [0, 1, 2, 3, 4] rfl⟩
    · replace c22 : rdy M q t i := b2_of1 c22
      refine lv_iinc (v := nI (o + 1)) (lv' := [(3, .int (nI (o + 1))), (4, .int (nI i)), (0, .ref (c 0)), (1, .int q), (2, .int t)]) hx hb dX1_countReady_25 hl (k := 1) rfl (nI_1 o) (by decide) rfl (fun ls hl => ?_)
      refine lv_iinc (v := nI (i + 1)) (lv' := [(4, .int (nI (i + 1))), (3, .int (nI (o + 1))), (0, .ref (c 0)), (1, .int q), (2, .int t)]) hx hb dX1_countReady_28 hl (k := 1) rfl (nI_1 i) (by decide) rfl (fun ls hl => ?_)
      refine lv_goto (tgt := 5) hx hb dX1_countReady_31 (by decide) ?_
      exact ih5 r' (i + 1, o + 1) _ _ _ (by omega) ⟨(by omega), (by omega), (by rw [hv]; first | exact cnt_t (decide_eq_true c22) | exact cnt_f (decide_eq_false c22)), rfl, rfl, lv_sub hl [0, 1, 2, 3, 4] rfl⟩

set_option maxHeartbeats 4000000 in
set_option maxRecDepth 100000 in
theorem c_X1_goesBefore (l : Launch) (G : va_G) (k : Nat → ClassId) (c : Nat → Nat) (M : Nat → Nat → Int32) (ds : Nat) (n1 : Nat) (i j : Nat) (hi : i < 80) (hj : j < 80) : Met l yX1_goesBefore wsX1_goesBefore ({ frames := 0, cells := 0, slots := 0, locals := 0 }) (va_Pc [.ref (c 0), .int (nI i), .int (nI j)] (yB G (yT k) (W1 k c M ds n1))) (vp_Si (fun r => r = b2 (gb M i j))) 0 0 (fun _ => False) := by
  refine Met.ofW (cc := cX1_goesBefore) (maxL := 3) (ret := (some .boolean)) (by decide) rfl ?_
  intro p e s m args below meth c_ s₁ B hml hv
  obtain ⟨rfl, hP, hK⟩ := hv
  have hx := B.exec
  have hb := B.bytes
  have hr := B.returns
  have hts := atoms_spec (ws := wsX1_goesBefore) B.pre
  have hown : s.vm.findClass RX1 = some m.cls := findClass_of_methodNamed B.named
  have hlocks := B.notSynchronized
  have hsz0 : (8 : Nat) < 2 ^ 31 := by decide
  have hsz1 : (80 : Nat) < 2 ^ 31 := by decide
  have hinX1 : ∀ w ∈ u_ws RX1 TX1 13, w ∈ wsX1_goesBefore := by decide +kernel
  have fl31 := hts (.fieldLink RX1 31 "DunningDesk$MessageBook" "readyDays" "[I") (by decide +kernel)
  have hl := lv_entry [.ref (c 0), .int (nI i), .int (nI j)] (n := 3) (Nat.le_of_ble_eq_true rfl)
  rw [lg_entry_eq]
  generalize (lg_sl [.ref (c 0), .int (nI i), .int (nI j)] ++ List.replicate (3 - (lg_sl [.ref (c 0), .int (nI i), .int (nI j)]).length) Slot.unset).toArray = ls at hl ⊢
  have hl : lv_has ls 3 [(0, .ref (c 0)), (1, .int (nI i)), (2, .int (nI j))] := hl
  refine lv_aload_n hx hb dX1_goesBefore_0 rfl (lv_at hl 0 rfl) ?_
  refine va_get (D := G) (ci := 3) (v := .ref (c 7)) (C := RX1) (T := TX1) (N := 13) hx hb hts hinX1 hown hK hP 0 rfl rfl 6 (by decide) fl31 (fun _ h9 => h9) rfl dX1_goesBefore_1 ?_
  refine lv_iload_n hx hb dX1_goesBefore_4 rfl (lv_at hl 1 rfl) ?_
  refine y_iald hx hb hK hP 7 0 rfl rfl (j := i) (by omega) hsz1 dX1_goesBefore_5 ?_
  refine lv_aload_n hx hb dX1_goesBefore_6 rfl (lv_at hl 0 rfl) ?_
  refine va_get (D := G) (ci := 3) (v := .ref (c 7)) (C := RX1) (T := TX1) (N := 13) hx hb hts hinX1 hown hK hP 0 rfl rfl 6 (by decide) fl31 (fun _ h9 => h9) rfl dX1_goesBefore_7 ?_
  refine lv_iload_n hx hb dX1_goesBefore_10 rfl (lv_at hl 2 rfl) ?_
  refine y_iald hx hb hK hP 7 0 rfl rfl (j := j) (by omega) hsz1 dX1_goesBefore_11 ?_
  refine lv_icmp_eq (tgt := 36) hx hb dX1_goesBefore_12 (by decide) (fun c12 => ?_) (fun c12 => ?_)
  · skip
    refine lv_iload_n hx hb dX1_goesBefore_36 rfl (lv_at hl 1 rfl) ?_
    refine lv_iload_n hx hb dX1_goesBefore_37 rfl (lv_at hl 2 rfl) ?_
    refine lv_icmp_ge (tgt := 45) hx hb dX1_goesBefore_38 (by decide) (fun c38 => ?_) (fun c38 => ?_)
    · replace c38 : j ≤ i := (nI_leI (a := j) (b := i) (by omega) (by omega)).mp c38
      refine lv_iconst (v := 0) hx hb dX1_goesBefore_45 (by decide) ?_
      exact W.zret (v := 0) hx hb hr (by decide) (fun τ hτ _ => ⟨_, rfl, (by first | exact (b2_f (fun h9 => h9.elim (fun h => absurd h (by rw [c12]; exact Int32.lt_irrefl)) (fun h => absurd h.2 (by omega)))).symm | exact (b2_t (Or.inr ⟨c12, by omega⟩)).symm), hτ⟩) (fun _ h9 => nomatch h9) dX1_goesBefore_46
    · replace c38 : ¬ j ≤ i := fun h9 => c38 ((nI_leI (a := j) (b := i) (by omega) (by omega)).mpr h9)
      refine lv_iconst (v := 1) hx hb dX1_goesBefore_41 (by decide) ?_
      refine lv_goto (tgt := 46) hx hb dX1_goesBefore_42 (by decide) ?_
      exact W.zret (v := 1) hx hb hr (by decide) (fun τ hτ _ => ⟨_, rfl, (by first | exact (b2_f (fun h9 => h9.elim (fun h => absurd h (by rw [c12]; exact Int32.lt_irrefl)) (fun h => absurd h.2 (by omega)))).symm | exact (b2_t (Or.inr ⟨c12, by omega⟩)).symm), hτ⟩) (fun _ h9 => nomatch h9) dX1_goesBefore_46
  · skip
    refine lv_aload_n hx hb dX1_goesBefore_15 rfl (lv_at hl 0 rfl) ?_
    refine va_get (D := G) (ci := 3) (v := .ref (c 7)) (C := RX1) (T := TX1) (N := 13) hx hb hts hinX1 hown hK hP 0 rfl rfl 6 (by decide) fl31 (fun _ h9 => h9) rfl dX1_goesBefore_16 ?_
    refine lv_iload_n hx hb dX1_goesBefore_19 rfl (lv_at hl 1 rfl) ?_
    refine y_iald hx hb hK hP 7 0 rfl rfl (j := i) (by omega) hsz1 dX1_goesBefore_20 ?_
    refine lv_aload_n hx hb dX1_goesBefore_21 rfl (lv_at hl 0 rfl) ?_
    refine va_get (D := G) (ci := 3) (v := .ref (c 7)) (C := RX1) (T := TX1) (N := 13) hx hb hts hinX1 hown hK hP 0 rfl rfl 6 (by decide) fl31 (fun _ h9 => h9) rfl dX1_goesBefore_22 ?_
    refine lv_iload_n hx hb dX1_goesBefore_25 rfl (lv_at hl 2 rfl) ?_
    refine y_iald hx hb hK hP 7 0 rfl rfl (j := j) (by omega) hsz1 dX1_goesBefore_26 ?_
    refine lv_icmp_ge (tgt := 34) hx hb dX1_goesBefore_27 (by decide) (fun c27 => ?_) (fun c27 => ?_)
    · skip
      refine lv_iconst (v := 0) hx hb dX1_goesBefore_34 (by decide) ?_
      exact W.zret (v := 0) hx hb hr (by decide) (fun τ hτ _ => ⟨_, rfl, (by first | exact (b2_f (fun h9 => h9.elim (fun h => absurd h (Int32.not_lt.mpr c27)) (fun h => c12 h.1))).symm | exact (b2_t (Or.inl (Int32.not_le.mp c27))).symm), hτ⟩) (fun _ h9 => nomatch h9) dX1_goesBefore_35
    · skip
      refine lv_iconst (v := 1) hx hb dX1_goesBefore_30 (by decide) ?_
      refine lv_goto (tgt := 35) hx hb dX1_goesBefore_31 (by decide) ?_
      exact W.zret (v := 1) hx hb hr (by decide) (fun τ hτ _ => ⟨_, rfl, (by first | exact (b2_f (fun h9 => h9.elim (fun h => absurd h (Int32.not_lt.mpr c27)) (fun h => c12 h.1))).symm | exact (b2_t (Or.inl (Int32.not_le.mp c27))).symm), hτ⟩) (fun _ h9 => nomatch h9) dX1_goesBefore_35

set_option maxHeartbeats 4000000 in
set_option maxRecDepth 100000 in
theorem c_X1_nextReady (l : Launch) (G : va_G) (k : Nat → ClassId) (c : Nat → Nat) (M : Nat → Nat → Int32) (ds : Nat) (n1 : Nat) (q t : Int32) (pv : Option Nat) (hn : n1 ≤ 80) (hpv : ∀ j, pv = some j → j < 80) : Met l yX1_nextReady wsX1_nextReady ({ frames := 1, cells := 0, slots := 0, locals := 23 }) (va_Pc [.ref (c 0), .int q, .int t, .int (oI pv)] (yB G (yT k) (W1 k c M ds n1))) (vp_Si (fun r => r = oI (nxt M q t pv n1 0 none))) 0 0 (fun _ => False) := by
  refine Met.ofW (cc := cX1_nextReady) (maxL := 6) (ret := (some .int)) (by decide) rfl ?_
  intro p e s m args below meth c_ s₁ B hml hv
  obtain ⟨rfl, hP, hK⟩ := hv
  have hx := B.exec
  have hb := B.bytes
  have hr := B.returns
  have hts := atoms_spec (ws := wsX1_nextReady) B.pre
  have hown : s.vm.findClass RX1 = some m.cls := findClass_of_methodNamed B.named
  have hlocks := B.notSynchronized
  have hsz0 : (8 : Nat) < 2 ^ 31 := by decide
  have hsz1 : (80 : Nat) < 2 ^ 31 := by decide
  have hinX1 : ∀ w ∈ u_ws RX1 TX1 13, w ∈ wsX1_nextReady := by decide +kernel
  have fl46 := hts (.fieldLink RX1 46 "DunningDesk$MessageBook" "size" "I") (by decide +kernel)
  have hl := lv_entry [.ref (c 0), .int q, .int t, .int (oI pv)] (n := 6) (Nat.le_of_ble_eq_true rfl)
  rw [lg_entry_eq]
  generalize (lg_sl [.ref (c 0), .int q, .int t, .int (oI pv)] ++ List.replicate (6 - (lg_sl [.ref (c 0), .int q, .int t, .int (oI pv)]).length) Slot.unset).toArray = ls at hl ⊢
  have hl : lv_has ls 6 [(0, .ref (c 0)), (1, .int q), (2, .int t), (3, .int (oI pv))] := hl
  refine lv_iconst (v := (-1)) hx hb dX1_nextReady_0 (by decide) ?_
  refine lv_istore (lv' := [(4, .int (-1)), (0, .ref (c 0)), (1, .int q), (2, .int t), (3, .int (oI pv))]) hx hb dX1_nextReady_1 hl (by decide) rfl (fun ls hl => ?_)
  refine lv_iconst (v := 0) hx hb dX1_nextReady_3 (by decide) ?_
  refine lv_istore (lv' := [(5, .int 0), (4, .int (-1)), (0, .ref (c 0)), (1, .int q), (2, .int t), (3, .int (oI pv))]) hx hb dX1_nextReady_4 hl (by decide) rfl (fun ls hl => ?_)
  have hl : lv_has ls 6 [(5, .int (nI 0)), (4, .int (oI none)), (0, .ref (c 0)), (1, .int q), (2, .int t), (3, .int (oI pv))] := lv_sub hl [0, 1, 2, 3, 4, 5] rfl
  refine y_loop (σ := Nat × (Option Nat)) (fun r xσ H locs ls => xσ.1 + r = n1 ∧ (∀ z, xσ.2 = some z → z < xσ.1) ∧ nxt M q t pv n1 0 none = nxt M q t pv r xσ.1 xσ.2 ∧ H = s.heap ∧ locs = [] ∧ lv_has ls 6 [(5, .int (nI xσ.1)), (4, .int (oI xσ.2)), (0, .ref (c 0)), (1, .int q), (2, .int t), (3, .int (oI pv))]) (fun r xσ H locs ls hI ih6 => ?_) n1 (0, none) _ _ _ ⟨(by omega), (fun z h => nomatch h), rfl, rfl, rfl, hl⟩
  obtain ⟨i, o⟩ := xσ
  obtain ⟨hi, ho, hv, rfl, rfl, hl⟩ := hI
  dsimp only at hi ho hv hl
  refine lv_iload hx hb dX1_nextReady_6 (lv_at hl 0 rfl) ?_
  refine lv_aload_n hx hb dX1_nextReady_8 rfl (lv_at hl 2 rfl) ?_
  refine va_get (D := G) (ci := 3) (v := .int (nI n1)) (C := RX1) (T := TX1) (N := 13) hx hb hts hinX1 hown hK hP 0 rfl rfl 12 (by decide) fl46 (fun _ h9 => h9) rfl dX1_nextReady_9 ?_
  refine lv_icmp_ge (tgt := 68) hx hb dX1_nextReady_12 (by decide) (fun c12 => ?_) (fun c12 => ?_)
  · replace c12 : n1 ≤ i := (nI_leI (a := n1) (b := i) (by omega) (by omega)).mp c12
    refine lv_iload hx hb dX1_nextReady_68 (lv_at hl 1 rfl) ?_
    exact W.iret (v := (oI o)) hx hb hr (fun τ hτ _ => ⟨_, rfl, (by (obtain rfl : r = 0 := by omega); rw [hv]; rfl), hτ⟩) (fun _ h9 => nomatch h9) dX1_nextReady_70
  · replace c12 : ¬ n1 ≤ i := fun h9 => c12 ((nI_leI (a := n1) (b := i) (by omega) (by omega)).mpr h9)
    obtain ⟨r', rfl⟩ : ∃ r', r = r' + 1 := ⟨r - 1, by omega⟩
    refine lv_aload_n hx hb dX1_nextReady_15 rfl (lv_at hl 2 rfl) ?_
    refine lv_iload hx hb dX1_nextReady_16 (lv_at hl 0 rfl) ?_
    refine lv_iload_n hx hb dX1_nextReady_18 rfl (lv_at hl 3 rfl) ?_
    refine lv_iload_n hx hb dX1_nextReady_19 rfl (lv_at hl 4 rfl) ?_
    refine y_roV (As := [.int (nI i), .int q, .int t]) (rest := []) ⟨hx, hb, hml, hown, hts⟩ (c_X1_isReady l G k c M ds n1 i q t (by omega)) (cwV 3 hts gX1_nextReady_X1_isReady rfl rfl rfl (by decide +kernel) ⟨Nat.le_of_ble_eq_true rfl, Nat.le_of_ble_eq_true rfl⟩) hK hP (va_recv hK hP (ci := 3) (q0 := 0) rfl rfl) rfl hl.1 rfl (Nat.le_of_ble_eq_true rfl) dX1_nextReady_20 ⟨Nat.le_of_ble_eq_true rfl, Nat.le_of_ble_eq_true rfl⟩ (fun r hr9 => ?_)
    subst hr9
    refine lv_if_eq (tgt := 62) hx hb dX1_nextReady_23 (by decide) (fun c23 => ?_) (fun c23 => ?_)
    · replace c23 : ¬ (rdy M q t i) := b2_of0 c23
      refine lv_iinc (v := nI (i + 1)) (lv' := [(5, .int (nI (i + 1))), (4, .int (oI o)), (0, .ref (c 0)), (1, .int q), (2, .int t), (3, .int (oI pv))]) hx hb dX1_nextReady_62 hl (k := 0) rfl (nI_1 i) (by decide) rfl (fun ls hl => ?_)
      refine lv_goto (tgt := 6) hx hb dX1_nextReady_65 (by decide) ?_
      exact ih6 r' (i + 1, o) _ _ _ (by omega) ⟨(by omega), (fun z h => by first | (cases h; omega) | (have := ho z h; omega)), (by rw [hv]; apply nxt_1; first | exact nst_r c23 | exact nst_k c23 c38 | exact (nst_s c23 c38).trans (nst2_s c55) | exact (nst_s c23 c38).trans (nst2_k c55) | exact (nst_n c23).trans (nst2_s c55) | exact (nst_n c23).trans (nst2_k c55) | exact nst_s c23 c38 | exact nst_n c23), rfl, rfl, lv_sub hl [0, 1, 2, 3, 4, 5] rfl⟩
    · replace c23 : rdy M q t i := b2_of1 c23
      refine lv_iload_n hx hb dX1_nextReady_26 rfl (lv_at hl 5 rfl) ?_
      refine lv_iconst (v := (-1)) hx hb dX1_nextReady_27 (by decide) ?_
      refine lv_icmp_eq (tgt := 41) hx hb dX1_nextReady_28 (by decide) (fun c28 => ?_) (fun c28 => ?_)
      · obtain rfl : pv = none := oI_none hpv c28
        refine lv_iload hx hb dX1_nextReady_41 (lv_at hl 1 rfl) ?_
        refine lv_iconst (v := (-1)) hx hb dX1_nextReady_43 (by decide) ?_
        refine lv_icmp_eq (tgt := 58) hx hb dX1_nextReady_44 (by decide) (fun c44 => ?_) (fun c44 => ?_)
        · obtain rfl : o = none := oI_none (fun z h => by have := ho z h; omega) c44
          refine lv_iload hx hb dX1_nextReady_58 (lv_at hl 0 rfl) ?_
          refine lv_istore (lv' := [(4, .int (nI i)), (5, .int (nI i)), (0, .ref (c 0)), (1, .int q), (2, .int t), (3, .int (oI none))]) hx hb dX1_nextReady_60 hl (by decide) rfl (fun ls hl => ?_)
          refine lv_iinc (v := nI (i + 1)) (lv' := [(5, .int (nI (i + 1))), (4, .int (nI i)), (0, .ref (c 0)), (1, .int q), (2, .int t), (3, .int (oI none))]) hx hb dX1_nextReady_62 hl (k := 1) rfl (nI_1 i) (by decide) rfl (fun ls hl => ?_)
          refine lv_goto (tgt := 6) hx hb dX1_nextReady_65 (by decide) ?_
          exact ih6 r' (i + 1, some i) _ _ _ (by omega) ⟨(by omega), (fun z h => by first | (cases h; omega) | (have := ho z h; omega)), (by rw [hv]; apply nxt_1; first | exact nst_r c23 | exact nst_k c23 c38 | exact (nst_s c23 c38).trans (nst2_s c55) | exact (nst_s c23 c38).trans (nst2_k c55) | exact (nst_n c23).trans (nst2_s c55) | exact (nst_n c23).trans (nst2_k c55) | exact nst_s c23 c38 | exact nst_n c23), rfl, rfl, lv_sub hl [0, 1, 2, 3, 4, 5] rfl⟩
        · obtain ⟨o', rfl⟩ : ∃ j, o = some j := oI_some c44
          have ho' := ho o' rfl
          refine lv_aload_n hx hb dX1_nextReady_47 rfl (lv_at hl 2 rfl) ?_
          refine lv_iload hx hb dX1_nextReady_48 (lv_at hl 0 rfl) ?_
          refine lv_iload hx hb dX1_nextReady_50 (lv_at hl 1 rfl) ?_
          refine y_roV (As := [.int (nI i), .int (nI o')]) (rest := []) ⟨hx, hb, hml, hown, hts⟩ (c_X1_goesBefore l G k c M ds n1 i o' (by omega) (by omega)) (cwV 2 hts gX1_nextReady_X1_goesBefore rfl rfl rfl (by decide +kernel) ⟨Nat.le_of_ble_eq_true rfl, Nat.le_of_ble_eq_true rfl⟩) hK hP (va_recv hK hP (ci := 3) (q0 := 0) rfl rfl) rfl hl.1 rfl (Nat.le_of_ble_eq_true rfl) dX1_nextReady_52 ⟨Nat.le_of_ble_eq_true rfl, Nat.le_of_ble_eq_true rfl⟩ (fun r hr9 => ?_)
          subst hr9
          refine lv_if_eq (tgt := 62) hx hb dX1_nextReady_55 (by decide) (fun c55 => ?_) (fun c55 => ?_)
          · replace c55 : ¬ (gb M i o') := b2_of0 c55
            refine lv_iinc (v := nI (i + 1)) (lv' := [(5, .int (nI (i + 1))), (4, .int (nI o')), (0, .ref (c 0)), (1, .int q), (2, .int t), (3, .int (oI none))]) hx hb dX1_nextReady_62 hl (k := 0) rfl (nI_1 i) (by decide) rfl (fun ls hl => ?_)
            refine lv_goto (tgt := 6) hx hb dX1_nextReady_65 (by decide) ?_
            exact ih6 r' (i + 1, some o') _ _ _ (by omega) ⟨(by omega), (fun z h => by first | (cases h; omega) | (have := ho z h; omega)), (by rw [hv]; apply nxt_1; first | exact nst_r c23 | exact nst_k c23 c38 | exact (nst_s c23 c38).trans (nst2_s c55) | exact (nst_s c23 c38).trans (nst2_k c55) | exact (nst_n c23).trans (nst2_s c55) | exact (nst_n c23).trans (nst2_k c55) | exact nst_s c23 c38 | exact nst_n c23), rfl, rfl, lv_sub hl [0, 1, 2, 3, 4, 5] rfl⟩
          · replace c55 : gb M i o' := b2_of1 c55
            refine lv_iload hx hb dX1_nextReady_58 (lv_at hl 0 rfl) ?_
            refine lv_istore (lv' := [(4, .int (nI i)), (5, .int (nI i)), (0, .ref (c 0)), (1, .int q), (2, .int t), (3, .int (oI none))]) hx hb dX1_nextReady_60 hl (by decide) rfl (fun ls hl => ?_)
            refine lv_iinc (v := nI (i + 1)) (lv' := [(5, .int (nI (i + 1))), (4, .int (nI i)), (0, .ref (c 0)), (1, .int q), (2, .int t), (3, .int (oI none))]) hx hb dX1_nextReady_62 hl (k := 1) rfl (nI_1 i) (by decide) rfl (fun ls hl => ?_)
            refine lv_goto (tgt := 6) hx hb dX1_nextReady_65 (by decide) ?_
            exact ih6 r' (i + 1, some i) _ _ _ (by omega) ⟨(by omega), (fun z h => by first | (cases h; omega) | (have := ho z h; omega)), (by rw [hv]; apply nxt_1; first | exact nst_r c23 | exact nst_k c23 c38 | exact (nst_s c23 c38).trans (nst2_s c55) | exact (nst_s c23 c38).trans (nst2_k c55) | exact (nst_n c23).trans (nst2_s c55) | exact (nst_n c23).trans (nst2_k c55) | exact nst_s c23 c38 | exact nst_n c23), rfl, rfl, lv_sub hl [0, 1, 2, 3, 4, 5] rfl⟩
      · obtain ⟨j, rfl⟩ : ∃ j, pv = some j := oI_some c28
        have hj := hpv j rfl
        refine lv_aload_n hx hb dX1_nextReady_31 rfl (lv_at hl 2 rfl) ?_
        refine lv_iload_n hx hb dX1_nextReady_32 rfl (lv_at hl 5 rfl) ?_
        refine lv_iload hx hb dX1_nextReady_33 (lv_at hl 0 rfl) ?_
        refine y_roV (As := [.int (nI j), .int (nI i)]) (rest := []) ⟨hx, hb, hml, hown, hts⟩ (c_X1_goesBefore l G k c M ds n1 j i (by omega) (by omega)) (cwV 2 hts gX1_nextReady_X1_goesBefore rfl rfl rfl (by decide +kernel) ⟨Nat.le_of_ble_eq_true rfl, Nat.le_of_ble_eq_true rfl⟩) hK hP (va_recv hK hP (ci := 3) (q0 := 0) rfl rfl) rfl hl.1 rfl (Nat.le_of_ble_eq_true rfl) dX1_nextReady_35 ⟨Nat.le_of_ble_eq_true rfl, Nat.le_of_ble_eq_true rfl⟩ (fun r hr9 => ?_)
        subst hr9
        refine lv_if_eq (tgt := 62) hx hb dX1_nextReady_38 (by decide) (fun c38 => ?_) (fun c38 => ?_)
        · replace c38 : ¬ (gb M j i) := b2_of0 c38
          refine lv_iinc (v := nI (i + 1)) (lv' := [(5, .int (nI (i + 1))), (4, .int (oI o)), (0, .ref (c 0)), (1, .int q), (2, .int t), (3, .int (nI j))]) hx hb dX1_nextReady_62 hl (k := 0) rfl (nI_1 i) (by decide) rfl (fun ls hl => ?_)
          refine lv_goto (tgt := 6) hx hb dX1_nextReady_65 (by decide) ?_
          exact ih6 r' (i + 1, o) _ _ _ (by omega) ⟨(by omega), (fun z h => by first | (cases h; omega) | (have := ho z h; omega)), (by rw [hv]; apply nxt_1; first | exact nst_r c23 | exact nst_k c23 c38 | exact (nst_s c23 c38).trans (nst2_s c55) | exact (nst_s c23 c38).trans (nst2_k c55) | exact (nst_n c23).trans (nst2_s c55) | exact (nst_n c23).trans (nst2_k c55) | exact nst_s c23 c38 | exact nst_n c23), rfl, rfl, lv_sub hl [0, 1, 2, 3, 4, 5] rfl⟩
        · replace c38 : gb M j i := b2_of1 c38
          refine lv_iload hx hb dX1_nextReady_41 (lv_at hl 1 rfl) ?_
          refine lv_iconst (v := (-1)) hx hb dX1_nextReady_43 (by decide) ?_
          refine lv_icmp_eq (tgt := 58) hx hb dX1_nextReady_44 (by decide) (fun c44 => ?_) (fun c44 => ?_)
          · obtain rfl : o = none := oI_none (fun z h => by have := ho z h; omega) c44
            refine lv_iload hx hb dX1_nextReady_58 (lv_at hl 0 rfl) ?_
            refine lv_istore (lv' := [(4, .int (nI i)), (5, .int (nI i)), (0, .ref (c 0)), (1, .int q), (2, .int t), (3, .int (nI j))]) hx hb dX1_nextReady_60 hl (by decide) rfl (fun ls hl => ?_)
            refine lv_iinc (v := nI (i + 1)) (lv' := [(5, .int (nI (i + 1))), (4, .int (nI i)), (0, .ref (c 0)), (1, .int q), (2, .int t), (3, .int (nI j))]) hx hb dX1_nextReady_62 hl (k := 1) rfl (nI_1 i) (by decide) rfl (fun ls hl => ?_)
            refine lv_goto (tgt := 6) hx hb dX1_nextReady_65 (by decide) ?_
            exact ih6 r' (i + 1, some i) _ _ _ (by omega) ⟨(by omega), (fun z h => by first | (cases h; omega) | (have := ho z h; omega)), (by rw [hv]; apply nxt_1; first | exact nst_r c23 | exact nst_k c23 c38 | exact (nst_s c23 c38).trans (nst2_s c55) | exact (nst_s c23 c38).trans (nst2_k c55) | exact (nst_n c23).trans (nst2_s c55) | exact (nst_n c23).trans (nst2_k c55) | exact nst_s c23 c38 | exact nst_n c23), rfl, rfl, lv_sub hl [0, 1, 2, 3, 4, 5] rfl⟩
          · obtain ⟨o', rfl⟩ : ∃ j, o = some j := oI_some c44
            have ho' := ho o' rfl
            refine lv_aload_n hx hb dX1_nextReady_47 rfl (lv_at hl 2 rfl) ?_
            refine lv_iload hx hb dX1_nextReady_48 (lv_at hl 0 rfl) ?_
            refine lv_iload hx hb dX1_nextReady_50 (lv_at hl 1 rfl) ?_
            refine y_roV (As := [.int (nI i), .int (nI o')]) (rest := []) ⟨hx, hb, hml, hown, hts⟩ (c_X1_goesBefore l G k c M ds n1 i o' (by omega) (by omega)) (cwV 2 hts gX1_nextReady_X1_goesBefore rfl rfl rfl (by decide +kernel) ⟨Nat.le_of_ble_eq_true rfl, Nat.le_of_ble_eq_true rfl⟩) hK hP (va_recv hK hP (ci := 3) (q0 := 0) rfl rfl) rfl hl.1 rfl (Nat.le_of_ble_eq_true rfl) dX1_nextReady_52 ⟨Nat.le_of_ble_eq_true rfl, Nat.le_of_ble_eq_true rfl⟩ (fun r hr9 => ?_)
            subst hr9
            refine lv_if_eq (tgt := 62) hx hb dX1_nextReady_55 (by decide) (fun c55 => ?_) (fun c55 => ?_)
            · replace c55 : ¬ (gb M i o') := b2_of0 c55
              refine lv_iinc (v := nI (i + 1)) (lv' := [(5, .int (nI (i + 1))), (4, .int (nI o')), (0, .ref (c 0)), (1, .int q), (2, .int t), (3, .int (nI j))]) hx hb dX1_nextReady_62 hl (k := 0) rfl (nI_1 i) (by decide) rfl (fun ls hl => ?_)
              refine lv_goto (tgt := 6) hx hb dX1_nextReady_65 (by decide) ?_
              exact ih6 r' (i + 1, some o') _ _ _ (by omega) ⟨(by omega), (fun z h => by first | (cases h; omega) | (have := ho z h; omega)), (by rw [hv]; apply nxt_1; first | exact nst_r c23 | exact nst_k c23 c38 | exact (nst_s c23 c38).trans (nst2_s c55) | exact (nst_s c23 c38).trans (nst2_k c55) | exact (nst_n c23).trans (nst2_s c55) | exact (nst_n c23).trans (nst2_k c55) | exact nst_s c23 c38 | exact nst_n c23), rfl, rfl, lv_sub hl [0, 1, 2, 3, 4, 5] rfl⟩
            · replace c55 : gb M i o' := b2_of1 c55
              refine lv_iload hx hb dX1_nextReady_58 (lv_at hl 0 rfl) ?_
              refine lv_istore (lv' := [(4, .int (nI i)), (5, .int (nI i)), (0, .ref (c 0)), (1, .int q), (2, .int t), (3, .int (nI j))]) hx hb dX1_nextReady_60 hl (by decide) rfl (fun ls hl => ?_)
              refine lv_iinc (v := nI (i + 1)) (lv' := [(5, .int (nI (i + 1))), (4, .int (nI i)), (0, .ref (c 0)), (1, .int q), (2, .int t), (3, .int (nI j))]) hx hb dX1_nextReady_62 hl (k := 1) rfl (nI_1 i) (by decide) rfl (fun ls hl => ?_)
              refine lv_goto (tgt := 6) hx hb dX1_nextReady_65 (by decide) ?_
              exact ih6 r' (i + 1, some i) _ _ _ (by omega) ⟨(by omega), (fun z h => by first | (cases h; omega) | (have := ho z h; omega)), (by rw [hv]; apply nxt_1; first | exact nst_r c23 | exact nst_k c23 c38 | exact (nst_s c23 c38).trans (nst2_s c55) | exact (nst_s c23 c38).trans (nst2_k c55) | exact (nst_n c23).trans (nst2_s c55) | exact (nst_n c23).trans (nst2_k c55) | exact nst_s c23 c38 | exact nst_n c23), rfl, rfl, lv_sub hl [0, 1, 2, 3, 4, 5] rfl⟩

set_option maxHeartbeats 4000000 in
set_option maxRecDepth 100000 in
theorem c_X1_countTakenBy (l : Launch) (G : va_G) (k : Nat → ClassId) (c : Nat → Nat) (M : Nat → Nat → Int32) (ds : Nat) (n1 : Nat) (u : Int32) (hn : n1 ≤ 80) : Met l yX1_countTakenBy wsX1_countTakenBy ({ frames := 0, cells := 0, slots := 0, locals := 0 }) (va_Pc [.ref (c 0), .int u] (yB G (yT k) (W1 k c M ds n1))) (vp_Si (fun r => r = nI (cnt (fun z => decide (M 5 z = 116 ∧ M 8 z = u)) n1 0 0))) 0 0 (fun _ => False) := by
  refine Met.ofW (cc := cX1_countTakenBy) (maxL := 4) (ret := (some .int)) (by decide) rfl ?_
  intro p e s m args below meth c_ s₁ B hml hv
  obtain ⟨rfl, hP, hK⟩ := hv
  have hx := B.exec
  have hb := B.bytes
  have hr := B.returns
  have hts := atoms_spec (ws := wsX1_countTakenBy) B.pre
  have hown : s.vm.findClass RX1 = some m.cls := findClass_of_methodNamed B.named
  have hlocks := B.notSynchronized
  have hsz0 : (8 : Nat) < 2 ^ 31 := by decide
  have hsz1 : (80 : Nat) < 2 ^ 31 := by decide
  have hinX1 : ∀ w ∈ u_ws RX1 TX1 13, w ∈ wsX1_countTakenBy := by decide +kernel
  have fl46 := hts (.fieldLink RX1 46 "DunningDesk$MessageBook" "size" "I") (by decide +kernel)
  have fl28 := hts (.fieldLink RX1 28 "DunningDesk$MessageBook" "states" "[C") (by decide +kernel)
  have fl37 := hts (.fieldLink RX1 37 "DunningDesk$MessageBook" "takers" "[I") (by decide +kernel)
  have hl := lv_entry [.ref (c 0), .int u] (n := 4) (Nat.le_of_ble_eq_true rfl)
  rw [lg_entry_eq]
  generalize (lg_sl [.ref (c 0), .int u] ++ List.replicate (4 - (lg_sl [.ref (c 0), .int u]).length) Slot.unset).toArray = ls at hl ⊢
  have hl : lv_has ls 4 [(0, .ref (c 0)), (1, .int u)] := hl
  refine lv_iconst (v := 0) hx hb dX1_countTakenBy_0 (by decide) ?_
  refine lv_istore_n (lv' := [(2, .int 0), (0, .ref (c 0)), (1, .int u)]) hx hb dX1_countTakenBy_1 rfl hl (by decide) rfl (fun ls hl => ?_)
  refine lv_iconst (v := 0) hx hb dX1_countTakenBy_2 (by decide) ?_
  refine lv_istore_n (lv' := [(3, .int 0), (2, .int 0), (0, .ref (c 0)), (1, .int u)]) hx hb dX1_countTakenBy_3 rfl hl (by decide) rfl (fun ls hl => ?_)
  have hl : lv_has ls 4 [(3, .int (nI 0)), (2, .int (nI 0)), (0, .ref (c 0)), (1, .int u)] := lv_sub hl [0, 1, 2, 3] rfl
  refine y_loop (σ := Nat × Nat) (fun r xσ H locs ls => xσ.1 + r = n1 ∧ xσ.2 ≤ xσ.1 ∧ cnt (fun z => decide (M 5 z = 116 ∧ M 8 z = u)) n1 0 0 = cnt (fun z => decide (M 5 z = 116 ∧ M 8 z = u)) r xσ.1 xσ.2 ∧ H = s.heap ∧ locs = [] ∧ lv_has ls 4 [(3, .int (nI xσ.1)), (2, .int (nI xσ.2)), (0, .ref (c 0)), (1, .int u)]) (fun r xσ H locs ls hI ih4 => ?_) n1 (0, 0) _ _ _ ⟨(by omega), (by omega), rfl, rfl, rfl, hl⟩
  obtain ⟨i, o⟩ := xσ
  obtain ⟨hi, ho, hv, rfl, rfl, hl⟩ := hI
  dsimp only at hi ho hv hl
  refine lv_iload_n hx hb dX1_countTakenBy_4 rfl (lv_at hl 0 rfl) ?_
  refine lv_aload_n hx hb dX1_countTakenBy_5 rfl (lv_at hl 2 rfl) ?_
  refine va_get (D := G) (ci := 3) (v := .int (nI n1)) (C := RX1) (T := TX1) (N := 13) hx hb hts hinX1 hown hK hP 0 rfl rfl 12 (by decide) fl46 (fun _ h9 => h9) rfl dX1_countTakenBy_6 ?_
  refine lv_icmp_ge (tgt := 42) hx hb dX1_countTakenBy_9 (by decide) (fun c9 => ?_) (fun c9 => ?_)
  · replace c9 : n1 ≤ i := (nI_leI (a := n1) (b := i) (by omega) (by omega)).mp c9
    refine lv_iload_n hx hb dX1_countTakenBy_42 rfl (lv_at hl 1 rfl) ?_
    exact W.iret (v := (nI o)) hx hb hr (fun τ hτ _ => ⟨_, rfl, (by (obtain rfl : r = 0 := by omega); rw [hv]; rfl), hτ⟩) (fun _ h9 => nomatch h9) dX1_countTakenBy_43
  · replace c9 : ¬ n1 ≤ i := fun h9 => c9 ((nI_leI (a := n1) (b := i) (by omega) (by omega)).mpr h9)
    obtain ⟨r', rfl⟩ : ∃ r', r = r' + 1 := ⟨r - 1, by omega⟩
    refine lv_aload_n hx hb dX1_countTakenBy_12 rfl (lv_at hl 2 rfl) ?_
    refine va_get (D := G) (ci := 3) (v := .ref (c 6)) (C := RX1) (T := TX1) (N := 13) hx hb hts hinX1 hown hK hP 0 rfl rfl 5 (by decide) fl28 (fun _ h9 => h9) rfl dX1_countTakenBy_13 ?_
    refine lv_iload_n hx hb dX1_countTakenBy_16 rfl (lv_at hl 0 rfl) ?_
    refine y_cald hx hb hK hP 6 2 rfl rfl (j := i) (by omega) hsz1 dX1_countTakenBy_17 ?_
    refine lv_bipush (v := 116) hx hb dX1_countTakenBy_18 (by decide) ?_
    refine lv_icmp_ne (tgt := 36) hx hb dX1_countTakenBy_20 (by decide) (fun c20 => ?_) (fun c20 => ?_)
    · skip
      refine lv_iinc (v := nI (i + 1)) (lv' := [(3, .int (nI (i + 1))), (2, .int (nI o)), (0, .ref (c 0)), (1, .int u)]) hx hb dX1_countTakenBy_36 hl (k := 0) rfl (nI_1 i) (by decide) rfl (fun ls hl => ?_)
      refine lv_goto (tgt := 4) hx hb dX1_countTakenBy_39 (by decide) ?_
      exact ih4 r' (i + 1, o) _ _ _ (by omega) ⟨(by omega), (by omega), (by rw [hv]; first | exact cnt_t (decide_eq_true ⟨c20, c30⟩) | exact cnt_f (decide_eq_false (fun h9 => c20 h9.1)) | exact cnt_f (decide_eq_false (fun h9 => c30 h9.2))), rfl, rfl, lv_sub hl [0, 1, 2, 3] rfl⟩
    · skip
      refine lv_aload_n hx hb dX1_countTakenBy_23 rfl (lv_at hl 2 rfl) ?_
      refine va_get (D := G) (ci := 3) (v := .ref (c 9)) (C := RX1) (T := TX1) (N := 13) hx hb hts hinX1 hown hK hP 0 rfl rfl 8 (by decide) fl37 (fun _ h9 => h9) rfl dX1_countTakenBy_24 ?_
      refine lv_iload_n hx hb dX1_countTakenBy_27 rfl (lv_at hl 0 rfl) ?_
      refine y_iald hx hb hK hP 9 0 rfl rfl (j := i) (by omega) hsz1 dX1_countTakenBy_28 ?_
      refine lv_iload_n hx hb dX1_countTakenBy_29 rfl (lv_at hl 3 rfl) ?_
      refine lv_icmp_ne (tgt := 36) hx hb dX1_countTakenBy_30 (by decide) (fun c30 => ?_) (fun c30 => ?_)
      · skip
        refine lv_iinc (v := nI (i + 1)) (lv' := [(3, .int (nI (i + 1))), (2, .int (nI o)), (0, .ref (c 0)), (1, .int u)]) hx hb dX1_countTakenBy_36 hl (k := 0) rfl (nI_1 i) (by decide) rfl (fun ls hl => ?_)
        refine lv_goto (tgt := 4) hx hb dX1_countTakenBy_39 (by decide) ?_
        exact ih4 r' (i + 1, o) _ _ _ (by omega) ⟨(by omega), (by omega), (by rw [hv]; first | exact cnt_t (decide_eq_true ⟨c20, c30⟩) | exact cnt_f (decide_eq_false (fun h9 => c20 h9.1)) | exact cnt_f (decide_eq_false (fun h9 => c30 h9.2))), rfl, rfl, lv_sub hl [0, 1, 2, 3] rfl⟩
      · skip
        refine lv_iinc (v := nI (o + 1)) (lv' := [(2, .int (nI (o + 1))), (3, .int (nI i)), (0, .ref (c 0)), (1, .int u)]) hx hb dX1_countTakenBy_33 hl (k := 1) rfl (nI_1 o) (by decide) rfl (fun ls hl => ?_)
        refine lv_iinc (v := nI (i + 1)) (lv' := [(3, .int (nI (i + 1))), (2, .int (nI (o + 1))), (0, .ref (c 0)), (1, .int u)]) hx hb dX1_countTakenBy_36 hl (k := 1) rfl (nI_1 i) (by decide) rfl (fun ls hl => ?_)
        refine lv_goto (tgt := 4) hx hb dX1_countTakenBy_39 (by decide) ?_
        exact ih4 r' (i + 1, o + 1) _ _ _ (by omega) ⟨(by omega), (by omega), (by rw [hv]; first | exact cnt_t (decide_eq_true ⟨c20, c30⟩) | exact cnt_f (decide_eq_false (fun h9 => c20 h9.1)) | exact cnt_f (decide_eq_false (fun h9 => c30 h9.2))), rfl, rfl, lv_sub hl [0, 1, 2, 3] rfl⟩

set_option maxHeartbeats 4000000 in
set_option maxRecDepth 100000 in
theorem c_X1_countIn (l : Launch) (G : va_G) (k : Nat → ClassId) (c : Nat → Nat) (M : Nat → Nat → Int32) (ds : Nat) (n1 : Nat) (u : Int32) (hn : n1 ≤ 80) : Met l yX1_countIn wsX1_countIn ({ frames := 0, cells := 0, slots := 0, locals := 0 }) (va_Pc [.ref (c 0), .int u] (yB G (yT k) (W1 k c M ds n1))) (vp_Si (fun r => r = nI (cnt (fun z => decide (M 5 z = u)) n1 0 0))) 0 0 (fun _ => False) := by
  refine Met.ofW (cc := cX1_countIn) (maxL := 4) (ret := (some .int)) (by decide) rfl ?_
  intro p e s m args below meth c_ s₁ B hml hv
  obtain ⟨rfl, hP, hK⟩ := hv
  have hx := B.exec
  have hb := B.bytes
  have hr := B.returns
  have hts := atoms_spec (ws := wsX1_countIn) B.pre
  have hown : s.vm.findClass RX1 = some m.cls := findClass_of_methodNamed B.named
  have hlocks := B.notSynchronized
  have hsz0 : (8 : Nat) < 2 ^ 31 := by decide
  have hsz1 : (80 : Nat) < 2 ^ 31 := by decide
  have hinX1 : ∀ w ∈ u_ws RX1 TX1 13, w ∈ wsX1_countIn := by decide +kernel
  have fl46 := hts (.fieldLink RX1 46 "DunningDesk$MessageBook" "size" "I") (by decide +kernel)
  have fl28 := hts (.fieldLink RX1 28 "DunningDesk$MessageBook" "states" "[C") (by decide +kernel)
  have hl := lv_entry [.ref (c 0), .int u] (n := 4) (Nat.le_of_ble_eq_true rfl)
  rw [lg_entry_eq]
  generalize (lg_sl [.ref (c 0), .int u] ++ List.replicate (4 - (lg_sl [.ref (c 0), .int u]).length) Slot.unset).toArray = ls at hl ⊢
  have hl : lv_has ls 4 [(0, .ref (c 0)), (1, .int u)] := hl
  refine lv_iconst (v := 0) hx hb dX1_countIn_0 (by decide) ?_
  refine lv_istore_n (lv' := [(2, .int 0), (0, .ref (c 0)), (1, .int u)]) hx hb dX1_countIn_1 rfl hl (by decide) rfl (fun ls hl => ?_)
  refine lv_iconst (v := 0) hx hb dX1_countIn_2 (by decide) ?_
  refine lv_istore_n (lv' := [(3, .int 0), (2, .int 0), (0, .ref (c 0)), (1, .int u)]) hx hb dX1_countIn_3 rfl hl (by decide) rfl (fun ls hl => ?_)
  have hl : lv_has ls 4 [(3, .int (nI 0)), (2, .int (nI 0)), (0, .ref (c 0)), (1, .int u)] := lv_sub hl [0, 1, 2, 3] rfl
  refine y_loop (σ := Nat × Nat) (fun r xσ H locs ls => xσ.1 + r = n1 ∧ xσ.2 ≤ xσ.1 ∧ cnt (fun z => decide (M 5 z = u)) n1 0 0 = cnt (fun z => decide (M 5 z = u)) r xσ.1 xσ.2 ∧ H = s.heap ∧ locs = [] ∧ lv_has ls 4 [(3, .int (nI xσ.1)), (2, .int (nI xσ.2)), (0, .ref (c 0)), (1, .int u)]) (fun r xσ H locs ls hI ih4 => ?_) n1 (0, 0) _ _ _ ⟨(by omega), (by omega), rfl, rfl, rfl, hl⟩
  obtain ⟨i, o⟩ := xσ
  obtain ⟨hi, ho, hv, rfl, rfl, hl⟩ := hI
  dsimp only at hi ho hv hl
  refine lv_iload_n hx hb dX1_countIn_4 rfl (lv_at hl 0 rfl) ?_
  refine lv_aload_n hx hb dX1_countIn_5 rfl (lv_at hl 2 rfl) ?_
  refine va_get (D := G) (ci := 3) (v := .int (nI n1)) (C := RX1) (T := TX1) (N := 13) hx hb hts hinX1 hown hK hP 0 rfl rfl 12 (by decide) fl46 (fun _ h9 => h9) rfl dX1_countIn_6 ?_
  refine lv_icmp_ge (tgt := 31) hx hb dX1_countIn_9 (by decide) (fun c9 => ?_) (fun c9 => ?_)
  · replace c9 : n1 ≤ i := (nI_leI (a := n1) (b := i) (by omega) (by omega)).mp c9
    refine lv_iload_n hx hb dX1_countIn_31 rfl (lv_at hl 1 rfl) ?_
    exact W.iret (v := (nI o)) hx hb hr (fun τ hτ _ => ⟨_, rfl, (by (obtain rfl : r = 0 := by omega); rw [hv]; rfl), hτ⟩) (fun _ h9 => nomatch h9) dX1_countIn_32
  · replace c9 : ¬ n1 ≤ i := fun h9 => c9 ((nI_leI (a := n1) (b := i) (by omega) (by omega)).mpr h9)
    obtain ⟨r', rfl⟩ : ∃ r', r = r' + 1 := ⟨r - 1, by omega⟩
    refine lv_aload_n hx hb dX1_countIn_12 rfl (lv_at hl 2 rfl) ?_
    refine va_get (D := G) (ci := 3) (v := .ref (c 6)) (C := RX1) (T := TX1) (N := 13) hx hb hts hinX1 hown hK hP 0 rfl rfl 5 (by decide) fl28 (fun _ h9 => h9) rfl dX1_countIn_13 ?_
    refine lv_iload_n hx hb dX1_countIn_16 rfl (lv_at hl 0 rfl) ?_
    refine y_cald hx hb hK hP 6 2 rfl rfl (j := i) (by omega) hsz1 dX1_countIn_17 ?_
    refine lv_iload_n hx hb dX1_countIn_18 rfl (lv_at hl 3 rfl) ?_
    refine lv_icmp_ne (tgt := 25) hx hb dX1_countIn_19 (by decide) (fun c19 => ?_) (fun c19 => ?_)
    · skip
      refine lv_iinc (v := nI (i + 1)) (lv' := [(3, .int (nI (i + 1))), (2, .int (nI o)), (0, .ref (c 0)), (1, .int u)]) hx hb dX1_countIn_25 hl (k := 0) rfl (nI_1 i) (by decide) rfl (fun ls hl => ?_)
      refine lv_goto (tgt := 4) hx hb dX1_countIn_28 (by decide) ?_
      exact ih4 r' (i + 1, o) _ _ _ (by omega) ⟨(by omega), (by omega), (by rw [hv]; first | exact cnt_t (decide_eq_true c19) | exact cnt_f (decide_eq_false c19)), rfl, rfl, lv_sub hl [0, 1, 2, 3] rfl⟩
    · skip
      refine lv_iinc (v := nI (o + 1)) (lv' := [(2, .int (nI (o + 1))), (3, .int (nI i)), (0, .ref (c 0)), (1, .int u)]) hx hb dX1_countIn_22 hl (k := 1) rfl (nI_1 o) (by decide) rfl (fun ls hl => ?_)
      refine lv_iinc (v := nI (i + 1)) (lv' := [(3, .int (nI (i + 1))), (2, .int (nI (o + 1))), (0, .ref (c 0)), (1, .int u)]) hx hb dX1_countIn_25 hl (k := 1) rfl (nI_1 i) (by decide) rfl (fun ls hl => ?_)
      refine lv_goto (tgt := 4) hx hb dX1_countIn_28 (by decide) ?_
      exact ih4 r' (i + 1, o + 1) _ _ _ (by omega) ⟨(by omega), (by omega), (by rw [hv]; first | exact cnt_t (decide_eq_true c19) | exact cnt_f (decide_eq_false c19)), rfl, rfl, lv_sub hl [0, 1, 2, 3] rfl⟩

set_option maxHeartbeats 4000000 in
set_option maxRecDepth 100000 in
theorem c_X1_add (l : Launch) (G : va_G) (k : Nat → ClassId) (c : Nat → Nat) (M : Nat → Nat → Int32) (ds : Nat) (n1 : Nat) (sz : Nat) (q key kd cs ct t : Int32) (hND : va_D (fun _ => True) (W1 k c M ds n1)) (hn : n1 < 80) (hkd : vp_nar .char kd = kd) : Met l yX1_add wsX1_add ({ frames := 0, cells := 0, slots := 0, locals := 0 }) (va_Pc [.ref (c 0), .int q, .int key, .int kd, .int cs, .int ct, .int t] (yBs G (yT k) (W1 k c M ds n1) sz)) (va_Qi (fun (r : Int32) (_ : Unit) => r = nI n1) (fun _ τ => va_P G vwCl (W1 k c (madd M n1 q key kd cs ct t) ds (n1 + 1)) τ.heap) (va_A (W1 k c M ds n1) sz)) 0 0 (va_A (W1 k c M ds n1) sz) := by
  refine Met.ofW (cc := cX1_add) (maxL := 8) (ret := (some .int)) (by decide) rfl ?_
  intro p e s m args below meth c_ s₁ B hml hv
  obtain ⟨rfl, hsz, hP, hK⟩ := hv
  have hx := B.exec
  have hb := B.bytes
  have hr := B.returns
  have hts := atoms_spec (ws := wsX1_add) B.pre
  have hown : s.vm.findClass RX1 = some m.cls := findClass_of_methodNamed B.named
  have hlocks := B.notSynchronized
  have hsz0 : (8 : Nat) < 2 ^ 31 := by decide
  have hsz1 : (80 : Nat) < 2 ^ 31 := by decide
  subst hsz
  have hD := hND.self (sz := s.heap.size)
  generalize hAe : va_A (W1 k c M ds n1) s.heap.size = A at hD ⊢
  have hA : ∀ q : Nat, s.heap.size ≤ q → A q := fun q h => by rw [← hAe]; exact Or.inr h
  have hS : va_S A s.heap s.heap [] := va_S.rf
  have hinX1 : ∀ w ∈ u_ws RX1 TX1 13, w ∈ wsX1_add := by decide +kernel
  have fl46 := hts (.fieldLink RX1 46 "DunningDesk$MessageBook" "size" "I") (by decide +kernel)
  have fl9 := hts (.fieldLink RX1 9 "DunningDesk$MessageBook" "queues" "[I") (by decide +kernel)
  have fl15 := hts (.fieldLink RX1 15 "DunningDesk$MessageBook" "keys" "[I") (by decide +kernel)
  have fl18 := hts (.fieldLink RX1 18 "DunningDesk$MessageBook" "kinds" "[C") (by decide +kernel)
  have fl22 := hts (.fieldLink RX1 22 "DunningDesk$MessageBook" "caseNumbers" "[I") (by decide +kernel)
  have fl25 := hts (.fieldLink RX1 25 "DunningDesk$MessageBook" "contents" "[I") (by decide +kernel)
  have fl31 := hts (.fieldLink RX1 31 "DunningDesk$MessageBook" "readyDays" "[I") (by decide +kernel)
  have fl28 := hts (.fieldLink RX1 28 "DunningDesk$MessageBook" "states" "[C") (by decide +kernel)
  have hl := lv_entry [.ref (c 0), .int q, .int key, .int kd, .int cs, .int ct, .int t] (n := 8) (Nat.le_of_ble_eq_true rfl)
  rw [lg_entry_eq]
  generalize (lg_sl [.ref (c 0), .int q, .int key, .int kd, .int cs, .int ct, .int t] ++ List.replicate (8 - (lg_sl [.ref (c 0), .int q, .int key, .int kd, .int cs, .int ct, .int t]).length) Slot.unset).toArray = ls at hl ⊢
  have hl : lv_has ls 8 [(0, .ref (c 0)), (1, .int q), (2, .int key), (3, .int kd), (4, .int cs), (5, .int ct), (6, .int t)] := hl
  refine lv_aload_n hx hb dX1_add_0 rfl (lv_at hl 0 rfl) ?_
  refine va_get (D := G) (ci := 3) (v := .int (nI n1)) (C := RX1) (T := TX1) (N := 13) hx hb hts hinX1 hown hK hP 0 rfl rfl 12 (by decide) fl46 (fun _ h9 => h9) rfl dX1_add_1 ?_
  refine lv_istore (lv' := [(7, .int (nI n1)), (0, .ref (c 0)), (1, .int q), (2, .int key), (3, .int kd), (4, .int cs), (5, .int ct), (6, .int t)]) hx hb dX1_add_4 hl (by decide) rfl (fun ls hl => ?_)
  refine lv_aload_n hx hb dX1_add_6 rfl (lv_at hl 1 rfl) ?_
  refine va_get (D := G) (ci := 3) (v := .ref (c 1)) (C := RX1) (T := TX1) (N := 13) hx hb hts hinX1 hown hK hP 0 rfl rfl 0 (by decide) fl9 (fun _ h9 => h9) rfl dX1_add_7 ?_
  refine lv_iload hx hb dX1_add_10 (lv_at hl 0 rfl) ?_
  refine lv_iload_n hx hb dX1_add_12 rfl (lv_at hl 2 rfl) ?_
  refine y_iast (ws' := W1 k c (w2 M 0 n1 q) ds n1) (j := n1) (x := q) hx hb hK hP hD hS 1 0 rfl rfl (by omega) hsz1 rfl dX1_add_13 (fun H locs hP hD hS => ?_)
  refine lv_aload_n hx hb dX1_add_14 rfl (lv_at hl 1 rfl) ?_
  refine va_get (D := G) (ci := 3) (v := .ref (c 2)) (C := RX1) (T := TX1) (N := 13) hx hb hts hinX1 hown hK hP 0 rfl rfl 1 (by decide) fl15 (fun _ h9 => h9) rfl dX1_add_15 ?_
  refine lv_iload hx hb dX1_add_18 (lv_at hl 0 rfl) ?_
  refine lv_iload_n hx hb dX1_add_20 rfl (lv_at hl 3 rfl) ?_
  refine y_iast (ws' := W1 k c (w2 (w2 M 0 n1 q) 1 n1 key) ds n1) (j := n1) (x := key) hx hb hK hP hD hS 2 0 rfl rfl (by omega) hsz1 rfl dX1_add_21 (fun H locs hP hD hS => ?_)
  refine lv_aload_n hx hb dX1_add_22 rfl (lv_at hl 1 rfl) ?_
  refine va_get (D := G) (ci := 3) (v := .ref (c 3)) (C := RX1) (T := TX1) (N := 13) hx hb hts hinX1 hown hK hP 0 rfl rfl 2 (by decide) fl18 (fun _ h9 => h9) rfl dX1_add_23 ?_
  refine lv_iload hx hb dX1_add_26 (lv_at hl 0 rfl) ?_
  refine lv_iload_n hx hb dX1_add_28 rfl (lv_at hl 4 rfl) ?_
  refine y_cast (ws' := W1 k c (w2 (w2 (w2 M 0 n1 q) 1 n1 key) 2 n1 kd) ds n1) (j := n1) (x := kd) hx hb hK hP hD hS 3 2 rfl rfl (by omega) hsz1 hkd rfl dX1_add_29 (fun H locs hP hD hS => ?_)
  refine lv_aload_n hx hb dX1_add_30 rfl (lv_at hl 1 rfl) ?_
  refine va_get (D := G) (ci := 3) (v := .ref (c 4)) (C := RX1) (T := TX1) (N := 13) hx hb hts hinX1 hown hK hP 0 rfl rfl 3 (by decide) fl22 (fun _ h9 => h9) rfl dX1_add_31 ?_
  refine lv_iload hx hb dX1_add_34 (lv_at hl 0 rfl) ?_
  refine lv_iload hx hb dX1_add_36 (lv_at hl 5 rfl) ?_
  refine y_iast (ws' := W1 k c (w2 (w2 (w2 (w2 M 0 n1 q) 1 n1 key) 2 n1 kd) 3 n1 cs) ds n1) (j := n1) (x := cs) hx hb hK hP hD hS 4 0 rfl rfl (by omega) hsz1 rfl dX1_add_38 (fun H locs hP hD hS => ?_)
  refine lv_aload_n hx hb dX1_add_39 rfl (lv_at hl 1 rfl) ?_
  refine va_get (D := G) (ci := 3) (v := .ref (c 5)) (C := RX1) (T := TX1) (N := 13) hx hb hts hinX1 hown hK hP 0 rfl rfl 4 (by decide) fl25 (fun _ h9 => h9) rfl dX1_add_40 ?_
  refine lv_iload hx hb dX1_add_43 (lv_at hl 0 rfl) ?_
  refine lv_iload hx hb dX1_add_45 (lv_at hl 6 rfl) ?_
  refine y_iast (ws' := W1 k c (w2 (w2 (w2 (w2 (w2 M 0 n1 q) 1 n1 key) 2 n1 kd) 3 n1 cs) 4 n1 ct) ds n1) (j := n1) (x := ct) hx hb hK hP hD hS 5 0 rfl rfl (by omega) hsz1 rfl dX1_add_47 (fun H locs hP hD hS => ?_)
  refine lv_aload_n hx hb dX1_add_48 rfl (lv_at hl 1 rfl) ?_
  refine va_get (D := G) (ci := 3) (v := .ref (c 7)) (C := RX1) (T := TX1) (N := 13) hx hb hts hinX1 hown hK hP 0 rfl rfl 6 (by decide) fl31 (fun _ h9 => h9) rfl dX1_add_49 ?_
  refine lv_iload hx hb dX1_add_52 (lv_at hl 0 rfl) ?_
  refine lv_iload hx hb dX1_add_54 (lv_at hl 7 rfl) ?_
  refine y_iast (ws' := W1 k c (w2 (w2 (w2 (w2 (w2 (w2 M 0 n1 q) 1 n1 key) 2 n1 kd) 3 n1 cs) 4 n1 ct) 6 n1 t) ds n1) (j := n1) (x := t) hx hb hK hP hD hS 7 0 rfl rfl (by omega) hsz1 rfl dX1_add_56 (fun H locs hP hD hS => ?_)
  refine lv_aload_n hx hb dX1_add_57 rfl (lv_at hl 1 rfl) ?_
  refine va_get (D := G) (ci := 3) (v := .ref (c 6)) (C := RX1) (T := TX1) (N := 13) hx hb hts hinX1 hown hK hP 0 rfl rfl 5 (by decide) fl28 (fun _ h9 => h9) rfl dX1_add_58 ?_
  refine lv_iload hx hb dX1_add_61 (lv_at hl 0 rfl) ?_
  refine lv_bipush (v := 119) hx hb dX1_add_63 (by decide) ?_
  refine y_cast (ws' := W1 k c (w2 (w2 (w2 (w2 (w2 (w2 (w2 M 0 n1 q) 1 n1 key) 2 n1 kd) 3 n1 cs) 4 n1 ct) 6 n1 t) 5 n1 119) ds n1) (j := n1) (x := 119) hx hb hK hP hD hS 6 2 rfl rfl (by omega) hsz1 (by decide) rfl dX1_add_65 (fun H locs hP hD hS => ?_)
  refine lv_aload_n hx hb dX1_add_66 rfl (lv_at hl 1 rfl) ?_
  refine lv_dup hx hb dX1_add_67 rfl ?_
  refine va_get (D := G) (ci := 3) (v := .int (nI n1)) (C := RX1) (T := TX1) (N := 13) hx hb hts hinX1 hown hK hP 0 rfl rfl 12 (by decide) fl46 (fun _ h9 => h9) rfl dX1_add_68 ?_
  refine lv_iconst (v := 1) hx hb dX1_add_71 (by decide) ?_
  refine lv_iadd hx hb dX1_add_72 ?_
  refine y_top (nI_1 n1) ?_
  refine va_put (D := G) (ci := 3) (v := .int (nI (n1 + 1))) (ty := .int) (C := RX1) (T := TX1) (N := 13) hx hb hts hinX1 tyX1 tyX1_ok nmX1 hown hK hP hD hS 0 rfl rfl 12 (by decide) fl46 (fun _ h9 => h9) rfl (by decide +kernel) rfl rfl (Nat.le_of_ble_eq_true rfl) dX1_add_73 (fun H locs hP hD hS => ?_)
  have hP : va_P G vwCl (W1 k c (w2 (w2 (w2 (w2 (w2 (w2 (w2 M 0 n1 q) 1 n1 key) 2 n1 kd) 3 n1 cs) 4 n1 ct) 6 n1 t) 5 n1 119) ds (n1 + 1)) H := hP
  have hD : va_D A (W1 k c (w2 (w2 (w2 (w2 (w2 (w2 (w2 M 0 n1 q) 1 n1 key) 2 n1 kd) 3 n1 cs) 4 n1 ct) 6 n1 t) 5 n1 119) ds (n1 + 1)) := hD
  refine lv_iload hx hb dX1_add_76 (lv_at hl 0 rfl) ?_
  have hPf : va_P G vwCl (W1 k c (madd M n1 q key kd cs ct t) ds (n1 + 1)) H := by exact hP
  exact W.iret (v := (nI n1)) hx hb hr (fun τ hτ hW => ⟨⟨_, (), rfl, (by rfl), yPt hPf hτ⟩, hS.F hτ⟩) hS.2.2 dX1_add_78

set_option maxHeartbeats 4000000 in
set_option maxRecDepth 100000 in
theorem c_X1_release (l : Launch) (G : va_G) (k : Nat → ClassId) (c : Nat → Nat) (M : Nat → Nat → Int32) (ds : Nat) (n1 : Nat) (sz : Nat) (cs t : Int32) (hND : va_D (fun _ => True) (W1 k c M ds n1)) (hn : n1 ≤ 80) : Met l yX1_release wsX1_release ({ frames := 1, cells := 0, slots := 0, locals := 21 }) (va_Pc [.ref (c 0), .int cs, .int t] (yBs G (yT k) (W1 k c M ds n1) sz)) (va_Qv (fun (_ : Unit) => True) (fun _ τ => va_P G vwCl (W1 k c (rel cs t n1 0 M) ds n1) τ.heap) (va_A (W1 k c M ds n1) sz)) 0 0 (va_A (W1 k c M ds n1) sz) := by
  refine Met.ofW (cc := cX1_release) (maxL := 4) (ret := none) (by decide) rfl ?_
  intro p e s m args below meth c_ s₁ B hml hv
  obtain ⟨rfl, hsz, hP, hK⟩ := hv
  have hx := B.exec
  have hb := B.bytes
  have hr := B.returns
  have hts := atoms_spec (ws := wsX1_release) B.pre
  have hown : s.vm.findClass RX1 = some m.cls := findClass_of_methodNamed B.named
  have hlocks := B.notSynchronized
  have hsz0 : (8 : Nat) < 2 ^ 31 := by decide
  have hsz1 : (80 : Nat) < 2 ^ 31 := by decide
  subst hsz
  have hD := hND.self (sz := s.heap.size)
  generalize hAe : va_A (W1 k c M ds n1) s.heap.size = A at hD ⊢
  have hA : ∀ q : Nat, s.heap.size ≤ q → A q := fun q h => by rw [← hAe]; exact Or.inr h
  have hS : va_S A s.heap s.heap [] := va_S.rf
  have hinX1 : ∀ w ∈ u_ws RX1 TX1 13, w ∈ wsX1_release := by decide +kernel
  have fl46 := hts (.fieldLink RX1 46 "DunningDesk$MessageBook" "size" "I") (by decide +kernel)
  have fl28 := hts (.fieldLink RX1 28 "DunningDesk$MessageBook" "states" "[C") (by decide +kernel)
  have fl22 := hts (.fieldLink RX1 22 "DunningDesk$MessageBook" "caseNumbers" "[I") (by decide +kernel)
  have fl31 := hts (.fieldLink RX1 31 "DunningDesk$MessageBook" "readyDays" "[I") (by decide +kernel)
  have hl := lv_entry [.ref (c 0), .int cs, .int t] (n := 4) (Nat.le_of_ble_eq_true rfl)
  rw [lg_entry_eq]
  generalize (lg_sl [.ref (c 0), .int cs, .int t] ++ List.replicate (4 - (lg_sl [.ref (c 0), .int cs, .int t]).length) Slot.unset).toArray = ls at hl ⊢
  have hl : lv_has ls 4 [(0, .ref (c 0)), (1, .int cs), (2, .int t)] := hl
  refine lv_iconst (v := 0) hx hb dX1_release_0 (by decide) ?_
  refine lv_istore_n (lv' := [(3, .int 0), (0, .ref (c 0)), (1, .int cs), (2, .int t)]) hx hb dX1_release_1 rfl hl (by decide) rfl (fun ls hl => ?_)
  have hl : lv_has ls 4 [(3, .int (nI 0)), (0, .ref (c 0)), (1, .int cs), (2, .int t)] := lv_sub hl [0, 1, 2, 3] rfl
  refine y_loop (σ := Nat × (Nat → Nat → Int32)) (fun r xσ H locs ls => xσ.1 + r = n1 ∧ rel cs t n1 0 M = rel cs t r xσ.1 xσ.2 ∧ va_P G vwCl (W1 k c xσ.2 ds n1) H ∧ va_D A (W1 k c xσ.2 ds n1) ∧ va_S A s.heap H locs ∧ lv_has ls 4 [(3, .int (nI xσ.1)), (0, .ref (c 0)), (1, .int cs), (2, .int t)]) (fun r xσ H locs ls hI ih2 => ?_) n1 (0, M) _ _ _ ⟨(by omega), rfl, hP, hD, hS, hl⟩
  obtain ⟨i, N⟩ := xσ
  obtain ⟨hi, hv, hP, hD, hS, hl⟩ := hI
  dsimp only at hi hv hP hD hl
  refine lv_iload_n hx hb dX1_release_2 rfl (lv_at hl 0 rfl) ?_
  refine lv_aload_n hx hb dX1_release_3 rfl (lv_at hl 1 rfl) ?_
  refine va_get (D := G) (ci := 3) (v := .int (nI n1)) (C := RX1) (T := TX1) (N := 13) hx hb hts hinX1 hown hK hP 0 rfl rfl 12 (by decide) fl46 (fun _ h9 => h9) rfl dX1_release_4 ?_
  refine lv_icmp_ge (tgt := 61) hx hb dX1_release_7 (by decide) (fun c7 => ?_) (fun c7 => ?_)
  · replace c7 : n1 ≤ i := (nI_leI (a := n1) (b := i) (by omega) (by omega)).mp c7
    have hPf : va_P G vwCl (W1 k c (rel cs t n1 0 M) ds n1) H := by (obtain rfl : r = 0 := by omega); rw [hv]; exact hP
    exact W.vret hx hb hr (fun τ hτ hW => ⟨⟨(), rfl, trivial, yPt hPf hτ⟩, hS.F hτ⟩) hS.2.2 dX1_release_61
  · replace c7 : ¬ n1 ≤ i := fun h9 => c7 ((nI_leI (a := n1) (b := i) (by omega) (by omega)).mpr h9)
    obtain ⟨r', rfl⟩ : ∃ r', r = r' + 1 := ⟨r - 1, by omega⟩
    refine lv_aload_n hx hb dX1_release_10 rfl (lv_at hl 1 rfl) ?_
    refine va_get (D := G) (ci := 3) (v := .ref (c 6)) (C := RX1) (T := TX1) (N := 13) hx hb hts hinX1 hown hK hP 0 rfl rfl 5 (by decide) fl28 (fun _ h9 => h9) rfl dX1_release_11 ?_
    refine lv_iload_n hx hb dX1_release_14 rfl (lv_at hl 0 rfl) ?_
    refine y_cald hx hb hK hP 6 2 rfl rfl (j := i) (by omega) hsz1 dX1_release_15 ?_
    refine lv_bipush (v := 104) hx hb dX1_release_16 (by decide) ?_
    refine lv_icmp_ne (tgt := 55) hx hb dX1_release_18 (by decide) (fun c18 => ?_) (fun c18 => ?_)
    · skip
      refine lv_iinc (v := nI (i + 1)) (lv' := [(3, .int (nI (i + 1))), (0, .ref (c 0)), (1, .int cs), (2, .int t)]) hx hb dX1_release_55 hl (k := 0) rfl (nI_1 i) (by decide) rfl (fun ls hl => ?_)
      refine lv_goto (tgt := 2) hx hb dX1_release_58 (by decide) ?_
      exact ih2 r' (i + 1, N) _ _ _ (by omega) ⟨(by omega), (by rw [hv]; apply rel_1; first | exact if_pos ⟨c18, c28⟩ | exact if_neg (fun h9 => c18 h9.1) | exact if_neg (fun h9 => c28 h9.2)), hP, hD, hS, lv_sub hl [0, 1, 2, 3] rfl⟩
    · skip
      refine lv_aload_n hx hb dX1_release_21 rfl (lv_at hl 1 rfl) ?_
      refine va_get (D := G) (ci := 3) (v := .ref (c 4)) (C := RX1) (T := TX1) (N := 13) hx hb hts hinX1 hown hK hP 0 rfl rfl 3 (by decide) fl22 (fun _ h9 => h9) rfl dX1_release_22 ?_
      refine lv_iload_n hx hb dX1_release_25 rfl (lv_at hl 0 rfl) ?_
      refine y_iald hx hb hK hP 4 0 rfl rfl (j := i) (by omega) hsz1 dX1_release_26 ?_
      refine lv_iload_n hx hb dX1_release_27 rfl (lv_at hl 2 rfl) ?_
      refine lv_icmp_ne (tgt := 55) hx hb dX1_release_28 (by decide) (fun c28 => ?_) (fun c28 => ?_)
      · skip
        refine lv_iinc (v := nI (i + 1)) (lv' := [(3, .int (nI (i + 1))), (0, .ref (c 0)), (1, .int cs), (2, .int t)]) hx hb dX1_release_55 hl (k := 0) rfl (nI_1 i) (by decide) rfl (fun ls hl => ?_)
        refine lv_goto (tgt := 2) hx hb dX1_release_58 (by decide) ?_
        exact ih2 r' (i + 1, N) _ _ _ (by omega) ⟨(by omega), (by rw [hv]; apply rel_1; first | exact if_pos ⟨c18, c28⟩ | exact if_neg (fun h9 => c18 h9.1) | exact if_neg (fun h9 => c28 h9.2)), hP, hD, hS, lv_sub hl [0, 1, 2, 3] rfl⟩
      · skip
        refine lv_aload_n hx hb dX1_release_31 rfl (lv_at hl 1 rfl) ?_
        refine va_get (D := G) (ci := 3) (v := .ref (c 6)) (C := RX1) (T := TX1) (N := 13) hx hb hts hinX1 hown hK hP 0 rfl rfl 5 (by decide) fl28 (fun _ h9 => h9) rfl dX1_release_32 ?_
        refine lv_iload_n hx hb dX1_release_35 rfl (lv_at hl 0 rfl) ?_
        refine lv_bipush (v := 119) hx hb dX1_release_36 (by decide) ?_
        refine y_cast (ws' := W1 k c (w2 N 5 i 119) ds n1) (j := i) (x := 119) hx hb hK hP hD hS 6 2 rfl rfl (by omega) hsz1 (by decide) rfl dX1_release_38 (fun H locs hP hD hS => ?_)
        refine lv_aload_n hx hb dX1_release_39 rfl (lv_at hl 1 rfl) ?_
        refine va_get (D := G) (ci := 3) (v := .ref (c 7)) (C := RX1) (T := TX1) (N := 13) hx hb hts hinX1 hown hK hP 0 rfl rfl 6 (by decide) fl31 (fun _ h9 => h9) rfl dX1_release_40 ?_
        refine lv_iload_n hx hb dX1_release_43 rfl (lv_at hl 0 rfl) ?_
        refine lv_aload_n hx hb dX1_release_44 rfl (lv_at hl 1 rfl) ?_
        refine va_get (D := G) (ci := 3) (v := .ref (c 7)) (C := RX1) (T := TX1) (N := 13) hx hb hts hinX1 hown hK hP 0 rfl rfl 6 (by decide) fl31 (fun _ h9 => h9) rfl dX1_release_45 ?_
        refine lv_iload_n hx hb dX1_release_48 rfl (lv_at hl 0 rfl) ?_
        refine y_iald hx hb hK hP 7 0 rfl rfl (j := i) (by omega) hsz1 dX1_release_49 ?_
        refine y_top ((by rw [w2_n (by decide)])) ?_
        refine lv_iload_n hx hb dX1_release_50 rfl (lv_at hl 3 rfl) ?_
        refine va_mmax hx hb (hml.trans hl.1.symm) hown (hts (.methodLink RX1 50 Lib.Math.max.name) (by decide +kernel)) (hts (.static Lib.Math.max.name) (by decide +kernel)) (hts (.initialized "java/lang/Math") (by decide +kernel)) (hts (.code Lib.Math.max.name Lib.Math.max.code 2 (some .int)) (by decide +kernel)) (Nat.le_of_ble_eq_true rfl) (Nat.le_of_ble_eq_true rfl) (Nat.le_of_ble_eq_true rfl) (Nat.le_of_ble_eq_true rfl) dX1_release_51 ?_
        refine y_top (y := mx (N 6 i) t) rfl ?_
        refine y_iast (ws' := W1 k c (w2 (w2 N 5 i 119) 6 i (mx (N 6 i) t)) ds n1) (j := i) (x := (mx (N 6 i) t)) hx hb hK hP hD hS 7 0 rfl rfl (by omega) hsz1 rfl dX1_release_54 (fun H locs hP hD hS => ?_)
        refine lv_iinc (v := nI (i + 1)) (lv' := [(3, .int (nI (i + 1))), (0, .ref (c 0)), (1, .int cs), (2, .int t)]) hx hb dX1_release_55 hl (k := 0) rfl (nI_1 i) (by decide) rfl (fun ls hl => ?_)
        refine lv_goto (tgt := 2) hx hb dX1_release_58 (by decide) ?_
        exact ih2 r' (i + 1, w2 (w2 N 5 i 119) 6 i (mx (N 6 i) t)) _ _ _ (by omega) ⟨(by omega), (by rw [hv]; apply rel_1; first | exact if_pos ⟨c18, c28⟩ | exact if_neg (fun h9 => c18 h9.1) | exact if_neg (fun h9 => c28 h9.2)), hP, hD, hS, lv_sub hl [0, 1, 2, 3] rfl⟩

set_option maxHeartbeats 4000000 in
set_option maxRecDepth 100000 in
theorem c_X1_giveTo (l : Launch) (G : va_G) (k : Nat → ClassId) (c : Nat → Nat) (M : Nat → Nat → Int32) (ds : Nat) (n1 : Nat) (sz : Nat) (u : Int32) (i : Nat) (t : Int32) (hND : va_D (fun _ => True) (W1 k c M ds n1)) (hi : i < 80) : Met l yX1_giveTo wsX1_giveTo ({ frames := 0, cells := 0, slots := 0, locals := 0 }) (va_Pc [.ref (c 0), .int u, .int (nI i), .int t] (yBs G (yT k) (W1 k c M ds n1) sz)) (va_Qv (fun (_ : Unit) => True) (fun _ τ => va_P G vwCl (W1 k c (w2 (w2 (w2 M 5 i 116) 8 i u) 9 i t) ds n1) τ.heap) (va_A (W1 k c M ds n1) sz)) 0 0 (va_A (W1 k c M ds n1) sz) := by
  refine Met.ofW (cc := cX1_giveTo) (maxL := 4) (ret := none) (by decide) rfl ?_
  intro p e s m args below meth c_ s₁ B hml hv
  obtain ⟨rfl, hsz, hP, hK⟩ := hv
  have hx := B.exec
  have hb := B.bytes
  have hr := B.returns
  have hts := atoms_spec (ws := wsX1_giveTo) B.pre
  have hown : s.vm.findClass RX1 = some m.cls := findClass_of_methodNamed B.named
  have hlocks := B.notSynchronized
  have hsz0 : (8 : Nat) < 2 ^ 31 := by decide
  have hsz1 : (80 : Nat) < 2 ^ 31 := by decide
  subst hsz
  have hD := hND.self (sz := s.heap.size)
  generalize hAe : va_A (W1 k c M ds n1) s.heap.size = A at hD ⊢
  have hA : ∀ q : Nat, s.heap.size ≤ q → A q := fun q h => by rw [← hAe]; exact Or.inr h
  have hS : va_S A s.heap s.heap [] := va_S.rf
  have hinX1 : ∀ w ∈ u_ws RX1 TX1 13, w ∈ wsX1_giveTo := by decide +kernel
  have fl28 := hts (.fieldLink RX1 28 "DunningDesk$MessageBook" "states" "[C") (by decide +kernel)
  have fl37 := hts (.fieldLink RX1 37 "DunningDesk$MessageBook" "takers" "[I") (by decide +kernel)
  have fl40 := hts (.fieldLink RX1 40 "DunningDesk$MessageBook" "takenDays" "[I") (by decide +kernel)
  have hl := lv_entry [.ref (c 0), .int u, .int (nI i), .int t] (n := 4) (Nat.le_of_ble_eq_true rfl)
  rw [lg_entry_eq]
  generalize (lg_sl [.ref (c 0), .int u, .int (nI i), .int t] ++ List.replicate (4 - (lg_sl [.ref (c 0), .int u, .int (nI i), .int t]).length) Slot.unset).toArray = ls at hl ⊢
  have hl : lv_has ls 4 [(0, .ref (c 0)), (1, .int u), (2, .int (nI i)), (3, .int t)] := hl
  refine lv_aload_n hx hb dX1_giveTo_0 rfl (lv_at hl 0 rfl) ?_
  refine va_get (D := G) (ci := 3) (v := .ref (c 6)) (C := RX1) (T := TX1) (N := 13) hx hb hts hinX1 hown hK hP 0 rfl rfl 5 (by decide) fl28 (fun _ h9 => h9) rfl dX1_giveTo_1 ?_
  refine lv_iload_n hx hb dX1_giveTo_4 rfl (lv_at hl 2 rfl) ?_
  refine lv_bipush (v := 116) hx hb dX1_giveTo_5 (by decide) ?_
  refine y_cast (ws' := W1 k c (w2 M 5 i 116) ds n1) (j := i) (x := 116) hx hb hK hP hD hS 6 2 rfl rfl (by omega) hsz1 (by decide) rfl dX1_giveTo_7 (fun H locs hP hD hS => ?_)
  refine lv_aload_n hx hb dX1_giveTo_8 rfl (lv_at hl 0 rfl) ?_
  refine va_get (D := G) (ci := 3) (v := .ref (c 9)) (C := RX1) (T := TX1) (N := 13) hx hb hts hinX1 hown hK hP 0 rfl rfl 8 (by decide) fl37 (fun _ h9 => h9) rfl dX1_giveTo_9 ?_
  refine lv_iload_n hx hb dX1_giveTo_12 rfl (lv_at hl 2 rfl) ?_
  refine lv_iload_n hx hb dX1_giveTo_13 rfl (lv_at hl 1 rfl) ?_
  refine y_iast (ws' := W1 k c (w2 (w2 M 5 i 116) 8 i u) ds n1) (j := i) (x := u) hx hb hK hP hD hS 9 0 rfl rfl (by omega) hsz1 rfl dX1_giveTo_14 (fun H locs hP hD hS => ?_)
  refine lv_aload_n hx hb dX1_giveTo_15 rfl (lv_at hl 0 rfl) ?_
  refine va_get (D := G) (ci := 3) (v := .ref (c 10)) (C := RX1) (T := TX1) (N := 13) hx hb hts hinX1 hown hK hP 0 rfl rfl 9 (by decide) fl40 (fun _ h9 => h9) rfl dX1_giveTo_16 ?_
  refine lv_iload_n hx hb dX1_giveTo_19 rfl (lv_at hl 2 rfl) ?_
  refine lv_iload_n hx hb dX1_giveTo_20 rfl (lv_at hl 3 rfl) ?_
  refine y_iast (ws' := W1 k c (w2 (w2 (w2 M 5 i 116) 8 i u) 9 i t) ds n1) (j := i) (x := t) hx hb hK hP hD hS 10 0 rfl rfl (by omega) hsz1 rfl dX1_giveTo_21 (fun H locs hP hD hS => ?_)
  have hPf : va_P G vwCl (W1 k c (w2 (w2 (w2 M 5 i 116) 8 i u) 9 i t) ds n1) H := by exact hP
  exact W.vret hx hb hr (fun τ hτ hW => ⟨⟨(), rfl, trivial, yPt hPf hτ⟩, hS.F hτ⟩) hS.2.2 dX1_giveTo_22

set_option maxHeartbeats 4000000 in
set_option maxRecDepth 100000 in
theorem c_X1_close (l : Launch) (G : va_G) (k : Nat → ClassId) (c : Nat → Nat) (M : Nat → Nat → Int32) (ds : Nat) (n1 : Nat) (sz : Nat) (i : Nat) (hND : va_D (fun _ => True) (W1 k c M ds n1)) (hi : i < 80) (hd : ds < 80) : Met l yX1_close wsX1_close ({ frames := 0, cells := 0, slots := 0, locals := 0 }) (va_Pc [.ref (c 0), .int (nI i)] (yBs G (yT k) (W1 k c M ds n1) sz)) (va_Qv (fun (_ : Unit) => True) (fun _ τ => va_P G vwCl (W1 k c (w2 (w2 M 5 i 100) 10 ds (nI i)) (ds + 1) n1) τ.heap) (va_A (W1 k c M ds n1) sz)) 0 0 (va_A (W1 k c M ds n1) sz) := by
  refine Met.ofW (cc := cX1_close) (maxL := 2) (ret := none) (by decide) rfl ?_
  intro p e s m args below meth c_ s₁ B hml hv
  obtain ⟨rfl, hsz, hP, hK⟩ := hv
  have hx := B.exec
  have hb := B.bytes
  have hr := B.returns
  have hts := atoms_spec (ws := wsX1_close) B.pre
  have hown : s.vm.findClass RX1 = some m.cls := findClass_of_methodNamed B.named
  have hlocks := B.notSynchronized
  have hsz0 : (8 : Nat) < 2 ^ 31 := by decide
  have hsz1 : (80 : Nat) < 2 ^ 31 := by decide
  subst hsz
  have hD := hND.self (sz := s.heap.size)
  generalize hAe : va_A (W1 k c M ds n1) s.heap.size = A at hD ⊢
  have hA : ∀ q : Nat, s.heap.size ≤ q → A q := fun q h => by rw [← hAe]; exact Or.inr h
  have hS : va_S A s.heap s.heap [] := va_S.rf
  have hinX1 : ∀ w ∈ u_ws RX1 TX1 13, w ∈ wsX1_close := by decide +kernel
  have fl28 := hts (.fieldLink RX1 28 "DunningDesk$MessageBook" "states" "[C") (by decide +kernel)
  have fl64 := hts (.fieldLink RX1 64 "DunningDesk$MessageBook" "doneSize" "I") (by decide +kernel)
  have fl43 := hts (.fieldLink RX1 43 "DunningDesk$MessageBook" "doneOrder" "[I") (by decide +kernel)
  have hl := lv_entry [.ref (c 0), .int (nI i)] (n := 2) (Nat.le_of_ble_eq_true rfl)
  rw [lg_entry_eq]
  generalize (lg_sl [.ref (c 0), .int (nI i)] ++ List.replicate (2 - (lg_sl [.ref (c 0), .int (nI i)]).length) Slot.unset).toArray = ls at hl ⊢
  have hl : lv_has ls 2 [(0, .ref (c 0)), (1, .int (nI i))] := hl
  refine lv_aload_n hx hb dX1_close_0 rfl (lv_at hl 0 rfl) ?_
  refine va_get (D := G) (ci := 3) (v := .ref (c 6)) (C := RX1) (T := TX1) (N := 13) hx hb hts hinX1 hown hK hP 0 rfl rfl 5 (by decide) fl28 (fun _ h9 => h9) rfl dX1_close_1 ?_
  refine lv_iload_n hx hb dX1_close_4 rfl (lv_at hl 1 rfl) ?_
  refine lv_bipush (v := 100) hx hb dX1_close_5 (by decide) ?_
  refine y_cast (ws' := W1 k c (w2 M 5 i 100) ds n1) (j := i) (x := 100) hx hb hK hP hD hS 6 2 rfl rfl (by omega) hsz1 (by decide) rfl dX1_close_7 (fun H locs hP hD hS => ?_)
  refine lv_aload_n hx hb dX1_close_8 rfl (lv_at hl 0 rfl) ?_
  refine va_get (D := G) (ci := 3) (v := .int (nI ds)) (C := RX1) (T := TX1) (N := 13) hx hb hts hinX1 hown hK hP 0 rfl rfl 11 (by decide) fl64 (fun _ h9 => h9) rfl dX1_close_9 ?_
  refine lv_bipush (v := 80) hx hb dX1_close_12 (by decide) ?_
  refine lv_icmp_ge (tgt := 37) hx hb dX1_close_14 (by decide) (fun c14 => ?_) (fun c14 => ?_)
  · replace c14 : 80 ≤ ds := (nI_leI (a := 80) (b := ds) (by omega) (by omega)).mp c14
    have hPf : va_P G vwCl (W1 k c (w2 (w2 M 5 i 100) 10 ds (nI i)) (ds + 1) n1) H := by first | exact hP | exact absurd c14 (by omega)
    exact W.vret hx hb hr (fun τ hτ hW => ⟨⟨(), rfl, trivial, yPt hPf hτ⟩, hS.F hτ⟩) hS.2.2 dX1_close_37
  · replace c14 : ¬ 80 ≤ ds := fun h9 => c14 ((nI_leI (a := 80) (b := ds) (by omega) (by omega)).mpr h9)
    refine lv_aload_n hx hb dX1_close_17 rfl (lv_at hl 0 rfl) ?_
    refine va_get (D := G) (ci := 3) (v := .ref (c 11)) (C := RX1) (T := TX1) (N := 13) hx hb hts hinX1 hown hK hP 0 rfl rfl 10 (by decide) fl43 (fun _ h9 => h9) rfl dX1_close_18 ?_
    refine lv_aload_n hx hb dX1_close_21 rfl (lv_at hl 0 rfl) ?_
    refine va_get (D := G) (ci := 3) (v := .int (nI ds)) (C := RX1) (T := TX1) (N := 13) hx hb hts hinX1 hown hK hP 0 rfl rfl 11 (by decide) fl64 (fun _ h9 => h9) rfl dX1_close_22 ?_
    refine lv_iload_n hx hb dX1_close_25 rfl (lv_at hl 1 rfl) ?_
    refine y_iast (ws' := W1 k c (w2 (w2 M 5 i 100) 10 ds (nI i)) ds n1) (j := ds) (x := (nI i)) hx hb hK hP hD hS 11 0 rfl rfl (by omega) hsz1 rfl dX1_close_26 (fun H locs hP hD hS => ?_)
    refine lv_aload_n hx hb dX1_close_27 rfl (lv_at hl 0 rfl) ?_
    refine lv_dup hx hb dX1_close_28 rfl ?_
    refine va_get (D := G) (ci := 3) (v := .int (nI ds)) (C := RX1) (T := TX1) (N := 13) hx hb hts hinX1 hown hK hP 0 rfl rfl 11 (by decide) fl64 (fun _ h9 => h9) rfl dX1_close_29 ?_
    refine lv_iconst (v := 1) hx hb dX1_close_32 (by decide) ?_
    refine lv_iadd hx hb dX1_close_33 ?_
    refine y_top (nI_1 ds) ?_
    refine va_put (D := G) (ci := 3) (v := .int (nI (ds + 1))) (ty := .int) (C := RX1) (T := TX1) (N := 13) hx hb hts hinX1 tyX1 tyX1_ok nmX1 hown hK hP hD hS 0 rfl rfl 11 (by decide) fl64 (fun _ h9 => h9) rfl (by decide +kernel) rfl rfl (Nat.le_of_ble_eq_true rfl) dX1_close_34 (fun H locs hP hD hS => ?_)
    have hP : va_P G vwCl (W1 k c (w2 (w2 M 5 i 100) 10 ds (nI i)) (ds + 1) n1) H := hP
    have hD : va_D A (W1 k c (w2 (w2 M 5 i 100) 10 ds (nI i)) (ds + 1) n1) := hD
    have hPf : va_P G vwCl (W1 k c (w2 (w2 M 5 i 100) 10 ds (nI i)) (ds + 1) n1) H := by first | exact hP | exact absurd c14 (by omega)
    exact W.vret hx hb hr (fun τ hτ hW => ⟨⟨(), rfl, trivial, yPt hPf hτ⟩, hS.F hτ⟩) hS.2.2 dX1_close_37

set_option maxHeartbeats 4000000 in
set_option maxRecDepth 100000 in
theorem c_X1_putBack (l : Launch) (G : va_G) (k : Nat → ClassId) (c : Nat → Nat) (M : Nat → Nat → Int32) (ds : Nat) (n1 : Nat) (sz : Nat) (i : Nat) (t : Int32) (hND : va_D (fun _ => True) (W1 k c M ds n1)) (hi : i < 80) : Met l yX1_putBack wsX1_putBack ({ frames := 0, cells := 0, slots := 0, locals := 0 }) (va_Pc [.ref (c 0), .int (nI i), .int t] (yBs G (yT k) (W1 k c M ds n1) sz)) (va_Qv (fun (_ : Unit) => True) (fun _ τ => va_P G vwCl (W1 k c (pb M i t) ds n1) τ.heap) (va_A (W1 k c M ds n1) sz)) 0 0 (va_A (W1 k c M ds n1) sz) := by
  refine Met.ofW (cc := cX1_putBack) (maxL := 3) (ret := none) (by decide) rfl ?_
  intro p e s m args below meth c_ s₁ B hml hv
  obtain ⟨rfl, hsz, hP, hK⟩ := hv
  have hx := B.exec
  have hb := B.bytes
  have hr := B.returns
  have hts := atoms_spec (ws := wsX1_putBack) B.pre
  have hown : s.vm.findClass RX1 = some m.cls := findClass_of_methodNamed B.named
  have hlocks := B.notSynchronized
  have hsz0 : (8 : Nat) < 2 ^ 31 := by decide
  have hsz1 : (80 : Nat) < 2 ^ 31 := by decide
  subst hsz
  have hD := hND.self (sz := s.heap.size)
  generalize hAe : va_A (W1 k c M ds n1) s.heap.size = A at hD ⊢
  have hA : ∀ q : Nat, s.heap.size ≤ q → A q := fun q h => by rw [← hAe]; exact Or.inr h
  have hS : va_S A s.heap s.heap [] := va_S.rf
  have hinX1 : ∀ w ∈ u_ws RX1 TX1 13, w ∈ wsX1_putBack := by decide +kernel
  have fl34 := hts (.fieldLink RX1 34 "DunningDesk$MessageBook" "triesMade" "[I") (by decide +kernel)
  have fl28 := hts (.fieldLink RX1 28 "DunningDesk$MessageBook" "states" "[C") (by decide +kernel)
  have fl31 := hts (.fieldLink RX1 31 "DunningDesk$MessageBook" "readyDays" "[I") (by decide +kernel)
  have hl := lv_entry [.ref (c 0), .int (nI i), .int t] (n := 3) (Nat.le_of_ble_eq_true rfl)
  rw [lg_entry_eq]
  generalize (lg_sl [.ref (c 0), .int (nI i), .int t] ++ List.replicate (3 - (lg_sl [.ref (c 0), .int (nI i), .int t]).length) Slot.unset).toArray = ls at hl ⊢
  have hl : lv_has ls 3 [(0, .ref (c 0)), (1, .int (nI i)), (2, .int t)] := hl
  refine lv_aload_n hx hb dX1_putBack_0 rfl (lv_at hl 0 rfl) ?_
  refine va_get (D := G) (ci := 3) (v := .ref (c 8)) (C := RX1) (T := TX1) (N := 13) hx hb hts hinX1 hown hK hP 0 rfl rfl 7 (by decide) fl34 (fun _ h9 => h9) rfl dX1_putBack_1 ?_
  refine lv_iload_n hx hb dX1_putBack_4 rfl (lv_at hl 1 rfl) ?_
  refine lv_dup2_11 hx hb dX1_putBack_5 rfl rfl ?_
  refine y_iald hx hb hK hP 8 0 rfl rfl (j := i) (by omega) hsz1 dX1_putBack_6 ?_
  refine lv_iconst (v := 1) hx hb dX1_putBack_7 (by decide) ?_
  refine lv_iadd hx hb dX1_putBack_8 ?_
  refine y_iast (ws' := W1 k c (w2 M 7 i ((M 7 i) + 1)) ds n1) (j := i) (x := ((M 7 i) + 1)) hx hb hK hP hD hS 8 0 rfl rfl (by omega) hsz1 rfl dX1_putBack_9 (fun H locs hP hD hS => ?_)
  refine lv_aload_n hx hb dX1_putBack_10 rfl (lv_at hl 0 rfl) ?_
  refine va_get (D := G) (ci := 3) (v := .ref (c 8)) (C := RX1) (T := TX1) (N := 13) hx hb hts hinX1 hown hK hP 0 rfl rfl 7 (by decide) fl34 (fun _ h9 => h9) rfl dX1_putBack_11 ?_
  refine lv_iload_n hx hb dX1_putBack_14 rfl (lv_at hl 1 rfl) ?_
  refine y_iald hx hb hK hP 8 0 rfl rfl (j := i) (by omega) hsz1 dX1_putBack_15 ?_
  refine y_top ((by rw [w2_k, pk_us])) ?_
  refine lv_iconst (v := 3) hx hb dX1_putBack_16 (by decide) ?_
  refine lv_icmp_lt (tgt := 31) hx hb dX1_putBack_17 (by decide) (fun c17 => ?_) (fun c17 => ?_)
  · skip
    refine lv_aload_n hx hb dX1_putBack_31 rfl (lv_at hl 0 rfl) ?_
    refine va_get (D := G) (ci := 3) (v := .ref (c 6)) (C := RX1) (T := TX1) (N := 13) hx hb hts hinX1 hown hK hP 0 rfl rfl 5 (by decide) fl28 (fun _ h9 => h9) rfl dX1_putBack_32 ?_
    refine lv_iload_n hx hb dX1_putBack_35 rfl (lv_at hl 1 rfl) ?_
    refine lv_bipush (v := 119) hx hb dX1_putBack_36 (by decide) ?_
    refine y_cast (ws' := W1 k c (w2 (w2 M 7 i ((M 7 i) + 1)) 5 i 119) ds n1) (j := i) (x := 119) hx hb hK hP hD hS 6 2 rfl rfl (by omega) hsz1 (by decide) rfl dX1_putBack_38 (fun H locs hP hD hS => ?_)
    refine lv_aload_n hx hb dX1_putBack_39 rfl (lv_at hl 0 rfl) ?_
    refine va_get (D := G) (ci := 3) (v := .ref (c 7)) (C := RX1) (T := TX1) (N := 13) hx hb hts hinX1 hown hK hP 0 rfl rfl 6 (by decide) fl31 (fun _ h9 => h9) rfl dX1_putBack_40 ?_
    refine lv_iload_n hx hb dX1_putBack_43 rfl (lv_at hl 1 rfl) ?_
    refine lv_iload_n hx hb dX1_putBack_44 rfl (lv_at hl 2 rfl) ?_
    refine lv_iconst (v := 2) hx hb dX1_putBack_45 (by decide) ?_
    refine lv_aload_n hx hb dX1_putBack_46 rfl (lv_at hl 0 rfl) ?_
    refine va_get (D := G) (ci := 3) (v := .ref (c 8)) (C := RX1) (T := TX1) (N := 13) hx hb hts hinX1 hown hK hP 0 rfl rfl 7 (by decide) fl34 (fun _ h9 => h9) rfl dX1_putBack_47 ?_
    refine lv_iload_n hx hb dX1_putBack_50 rfl (lv_at hl 1 rfl) ?_
    refine y_iald hx hb hK hP 8 0 rfl rfl (j := i) (by omega) hsz1 dX1_putBack_51 ?_
    refine y_top ((by rw [w2_n (by decide), w2_k, pk_us])) ?_
    refine lv_imul hx hb dX1_putBack_52 ?_
    refine lv_iadd hx hb dX1_putBack_53 ?_
    refine y_iast (ws' := W1 k c (w2 (w2 (w2 M 7 i ((M 7 i) + 1)) 5 i 119) 6 i (t + (2 * (M 7 i + 1)))) ds n1) (j := i) (x := (t + (2 * (M 7 i + 1)))) hx hb hK hP hD hS 7 0 rfl rfl (by omega) hsz1 rfl dX1_putBack_54 (fun H locs hP hD hS => ?_)
    have hPf : va_P G vwCl (W1 k c (pb M i t) ds n1) H := by first | (rw [show pb M i t = _ from if_pos c17]; exact hP) | (rw [show pb M i t = _ from if_neg c17]; exact hP)
    exact W.vret hx hb hr (fun τ hτ hW => ⟨⟨(), rfl, trivial, yPt hPf hτ⟩, hS.F hτ⟩) hS.2.2 dX1_putBack_55
  · skip
    refine lv_aload_n hx hb dX1_putBack_20 rfl (lv_at hl 0 rfl) ?_
    refine va_get (D := G) (ci := 3) (v := .ref (c 6)) (C := RX1) (T := TX1) (N := 13) hx hb hts hinX1 hown hK hP 0 rfl rfl 5 (by decide) fl28 (fun _ h9 => h9) rfl dX1_putBack_21 ?_
    refine lv_iload_n hx hb dX1_putBack_24 rfl (lv_at hl 1 rfl) ?_
    refine lv_bipush (v := 120) hx hb dX1_putBack_25 (by decide) ?_
    refine y_cast (ws' := W1 k c (w2 (w2 M 7 i ((M 7 i) + 1)) 5 i 120) ds n1) (j := i) (x := 120) hx hb hK hP hD hS 6 2 rfl rfl (by omega) hsz1 (by decide) rfl dX1_putBack_27 (fun H locs hP hD hS => ?_)
    refine lv_goto (tgt := 55) hx hb dX1_putBack_28 (by decide) ?_
    have hPf : va_P G vwCl (W1 k c (pb M i t) ds n1) H := by first | (rw [show pb M i t = _ from if_pos c17]; exact hP) | (rw [show pb M i t = _ from if_neg c17]; exact hP)
    exact W.vret hx hb hr (fun τ hτ hW => ⟨⟨(), rfl, trivial, yPt hPf hτ⟩, hS.F hτ⟩) hS.2.2 dX1_putBack_55

set_option maxHeartbeats 4000000 in
set_option maxRecDepth 100000 in
theorem c_X1_putBackTakenUntil (l : Launch) (G : va_G) (k : Nat → ClassId) (c : Nat → Nat) (M : Nat → Nat → Int32) (ds : Nat) (n1 : Nat) (sz : Nat) (la t : Int32) (hND : va_D (fun _ => True) (W1 k c M ds n1)) (hn : n1 ≤ 80) : Met l yX1_putBackTakenUntil wsX1_putBackTakenUntil ({ frames := 1, cells := 0, slots := 0, locals := 22 }) (va_Pc [.ref (c 0), .int la, .int t] (yBs G (yT k) (W1 k c M ds n1) sz)) (va_Qv (fun (_ : Unit) => True) (fun _ τ => va_P G vwCl (W1 k c (pbk la t n1 0 M) ds n1) τ.heap) (va_A (W1 k c M ds n1) sz)) 0 0 (va_A (W1 k c M ds n1) sz) := by
  refine Met.ofW (cc := cX1_putBackTakenUntil) (maxL := 4) (ret := none) (by decide) rfl ?_
  intro p e s m args below meth c_ s₁ B hml hv
  obtain ⟨rfl, hsz, hP, hK⟩ := hv
  have hx := B.exec
  have hb := B.bytes
  have hr := B.returns
  have hts := atoms_spec (ws := wsX1_putBackTakenUntil) B.pre
  have hown : s.vm.findClass RX1 = some m.cls := findClass_of_methodNamed B.named
  have hlocks := B.notSynchronized
  have hsz0 : (8 : Nat) < 2 ^ 31 := by decide
  have hsz1 : (80 : Nat) < 2 ^ 31 := by decide
  subst hsz
  have hD := hND.self (sz := s.heap.size)
  generalize hAe : va_A (W1 k c M ds n1) s.heap.size = A at hD ⊢
  have hA : ∀ q : Nat, s.heap.size ≤ q → A q := fun q h => by rw [← hAe]; exact Or.inr h
  have hS : va_S A s.heap s.heap [] := va_S.rf
  have hinX1 : ∀ w ∈ u_ws RX1 TX1 13, w ∈ wsX1_putBackTakenUntil := by decide +kernel
  have fl46 := hts (.fieldLink RX1 46 "DunningDesk$MessageBook" "size" "I") (by decide +kernel)
  have fl28 := hts (.fieldLink RX1 28 "DunningDesk$MessageBook" "states" "[C") (by decide +kernel)
  have fl40 := hts (.fieldLink RX1 40 "DunningDesk$MessageBook" "takenDays" "[I") (by decide +kernel)
  have hl := lv_entry [.ref (c 0), .int la, .int t] (n := 4) (Nat.le_of_ble_eq_true rfl)
  rw [lg_entry_eq]
  generalize (lg_sl [.ref (c 0), .int la, .int t] ++ List.replicate (4 - (lg_sl [.ref (c 0), .int la, .int t]).length) Slot.unset).toArray = ls at hl ⊢
  have hl : lv_has ls 4 [(0, .ref (c 0)), (1, .int la), (2, .int t)] := hl
  refine lv_iconst (v := 0) hx hb dX1_putBackTakenUntil_0 (by decide) ?_
  refine lv_istore_n (lv' := [(3, .int 0), (0, .ref (c 0)), (1, .int la), (2, .int t)]) hx hb dX1_putBackTakenUntil_1 rfl hl (by decide) rfl (fun ls hl => ?_)
  have hl : lv_has ls 4 [(3, .int (nI 0)), (0, .ref (c 0)), (1, .int la), (2, .int t)] := lv_sub hl [0, 1, 2, 3] rfl
  refine y_loop (σ := Nat × (Nat → Nat → Int32)) (fun r xσ H locs ls => xσ.1 + r = n1 ∧ pbk la t n1 0 M = pbk la t r xσ.1 xσ.2 ∧ va_P G vwCl (W1 k c xσ.2 ds n1) H ∧ va_D A (W1 k c xσ.2 ds n1) ∧ va_S A s.heap H locs ∧ lv_has ls 4 [(3, .int (nI xσ.1)), (0, .ref (c 0)), (1, .int la), (2, .int t)]) (fun r xσ H locs ls hI ih2 => ?_) n1 (0, M) _ _ _ ⟨(by omega), rfl, hP, hD, hS, hl⟩
  obtain ⟨i, N⟩ := xσ
  obtain ⟨hi, hv, hP, hD, hS, hl⟩ := hI
  dsimp only at hi hv hP hD hl
  refine lv_iload_n hx hb dX1_putBackTakenUntil_2 rfl (lv_at hl 0 rfl) ?_
  refine lv_aload_n hx hb dX1_putBackTakenUntil_3 rfl (lv_at hl 1 rfl) ?_
  refine va_get (D := G) (ci := 3) (v := .int (nI n1)) (C := RX1) (T := TX1) (N := 13) hx hb hts hinX1 hown hK hP 0 rfl rfl 12 (by decide) fl46 (fun _ h9 => h9) rfl dX1_putBackTakenUntil_4 ?_
  refine lv_icmp_ge (tgt := 43) hx hb dX1_putBackTakenUntil_7 (by decide) (fun c7 => ?_) (fun c7 => ?_)
  · replace c7 : n1 ≤ i := (nI_leI (a := n1) (b := i) (by omega) (by omega)).mp c7
    have hPf : va_P G vwCl (W1 k c (pbk la t n1 0 M) ds n1) H := by (obtain rfl : r = 0 := by omega); rw [hv]; exact hP
    exact W.vret hx hb hr (fun τ hτ hW => ⟨⟨(), rfl, trivial, yPt hPf hτ⟩, hS.F hτ⟩) hS.2.2 dX1_putBackTakenUntil_43
  · replace c7 : ¬ n1 ≤ i := fun h9 => c7 ((nI_leI (a := n1) (b := i) (by omega) (by omega)).mpr h9)
    obtain ⟨r', rfl⟩ : ∃ r', r = r' + 1 := ⟨r - 1, by omega⟩
    refine lv_aload_n hx hb dX1_putBackTakenUntil_10 rfl (lv_at hl 1 rfl) ?_
    refine va_get (D := G) (ci := 3) (v := .ref (c 6)) (C := RX1) (T := TX1) (N := 13) hx hb hts hinX1 hown hK hP 0 rfl rfl 5 (by decide) fl28 (fun _ h9 => h9) rfl dX1_putBackTakenUntil_11 ?_
    refine lv_iload_n hx hb dX1_putBackTakenUntil_14 rfl (lv_at hl 0 rfl) ?_
    refine y_cald hx hb hK hP 6 2 rfl rfl (j := i) (by omega) hsz1 dX1_putBackTakenUntil_15 ?_
    refine lv_bipush (v := 116) hx hb dX1_putBackTakenUntil_16 (by decide) ?_
    refine lv_icmp_ne (tgt := 37) hx hb dX1_putBackTakenUntil_18 (by decide) (fun c18 => ?_) (fun c18 => ?_)
    · skip
      refine lv_iinc (v := nI (i + 1)) (lv' := [(3, .int (nI (i + 1))), (0, .ref (c 0)), (1, .int la), (2, .int t)]) hx hb dX1_putBackTakenUntil_37 hl (k := 0) rfl (nI_1 i) (by decide) rfl (fun ls hl => ?_)
      refine lv_goto (tgt := 2) hx hb dX1_putBackTakenUntil_40 (by decide) ?_
      exact ih2 r' (i + 1, N) _ _ _ (by omega) ⟨(by omega), (by rw [hv]; apply pbk_1; first | exact if_pos ⟨c18, Int32.not_lt.mp c28⟩ | exact if_neg (fun h9 => c18 h9.1) | exact if_neg (fun h9 => absurd h9.2 (Int32.not_le.mpr c28))), hP, hD, hS, lv_sub hl [0, 1, 2, 3] rfl⟩
    · skip
      refine lv_aload_n hx hb dX1_putBackTakenUntil_21 rfl (lv_at hl 1 rfl) ?_
      refine va_get (D := G) (ci := 3) (v := .ref (c 10)) (C := RX1) (T := TX1) (N := 13) hx hb hts hinX1 hown hK hP 0 rfl rfl 9 (by decide) fl40 (fun _ h9 => h9) rfl dX1_putBackTakenUntil_22 ?_
      refine lv_iload_n hx hb dX1_putBackTakenUntil_25 rfl (lv_at hl 0 rfl) ?_
      refine y_iald hx hb hK hP 10 0 rfl rfl (j := i) (by omega) hsz1 dX1_putBackTakenUntil_26 ?_
      refine lv_iload_n hx hb dX1_putBackTakenUntil_27 rfl (lv_at hl 2 rfl) ?_
      refine lv_icmp_gt (tgt := 37) hx hb dX1_putBackTakenUntil_28 (by decide) (fun c28 => ?_) (fun c28 => ?_)
      · skip
        refine lv_iinc (v := nI (i + 1)) (lv' := [(3, .int (nI (i + 1))), (0, .ref (c 0)), (1, .int la), (2, .int t)]) hx hb dX1_putBackTakenUntil_37 hl (k := 0) rfl (nI_1 i) (by decide) rfl (fun ls hl => ?_)
        refine lv_goto (tgt := 2) hx hb dX1_putBackTakenUntil_40 (by decide) ?_
        exact ih2 r' (i + 1, N) _ _ _ (by omega) ⟨(by omega), (by rw [hv]; apply pbk_1; first | exact if_pos ⟨c18, Int32.not_lt.mp c28⟩ | exact if_neg (fun h9 => c18 h9.1) | exact if_neg (fun h9 => absurd h9.2 (Int32.not_le.mpr c28))), hP, hD, hS, lv_sub hl [0, 1, 2, 3] rfl⟩
      · skip
        refine lv_aload_n hx hb dX1_putBackTakenUntil_31 rfl (lv_at hl 1 rfl) ?_
        refine lv_iload_n hx hb dX1_putBackTakenUntil_32 rfl (lv_at hl 0 rfl) ?_
        refine lv_iload_n hx hb dX1_putBackTakenUntil_33 rfl (lv_at hl 3 rfl) ?_
        have hfr9 : ∀ q, va_A (W1 k c N ds n1) _ q → A q := va_free hD hS hA [0, 1, 2, 3, 4, 5, 6, 7, 8, 9, 10, 11] rfl
        refine y_rvV (w := W1 k c N ds n1) (w' := fun (_ : Unit) => W1 k c (pb N i t) ds n1) (As := [.int (nI i), .int t]) (rest := []) ⟨hx, hb, hml, hown, hts⟩ (c_X1_putBack l G k c N ds n1 _ i t (yD hND rfl) (by omega)) (cwV 2 hts gX1_putBackTakenUntil_X1_putBack rfl rfl rfl (by decide +kernel) ⟨Nat.le_of_ble_eq_true rfl, Nat.le_of_ble_eq_true rfl⟩) hK hP (va_recv hK hP (ci := 3) (q0 := 0) rfl rfl) hS hfr9 rfl hl.1 rfl (Nat.le_of_ble_eq_true rfl) dX1_putBackTakenUntil_34 ⟨Nat.le_of_ble_eq_true rfl, Nat.le_of_ble_eq_true rfl⟩ (fun u9 H1 locs1 hr9 hP9 hz9 hk9 hS9 => ?_)
        have hP9 : va_P G vwCl (W1 k c (pb N i t) ds n1) H1 := hP9
        have hD9 : va_D A (W1 k c (pb N i t) ds n1) := yD hD rfl
        clear hP hD hS hfr9 hz9 hk9
        have hP := hP9
        have hD := hD9
        have hS := hS9
        clear hP9 hD9 hS9
        refine lv_iinc (v := nI (i + 1)) (lv' := [(3, .int (nI (i + 1))), (0, .ref (c 0)), (1, .int la), (2, .int t)]) hx hb dX1_putBackTakenUntil_37 hl (k := 0) rfl (nI_1 i) (by decide) rfl (fun ls hl => ?_)
        refine lv_goto (tgt := 2) hx hb dX1_putBackTakenUntil_40 (by decide) ?_
        exact ih2 r' (i + 1, pb N i t) _ _ _ (by omega) ⟨(by omega), (by rw [hv]; apply pbk_1; first | exact if_pos ⟨c18, Int32.not_lt.mp c28⟩ | exact if_neg (fun h9 => c18 h9.1) | exact if_neg (fun h9 => absurd h9.2 (Int32.not_le.mpr c28))), hP, hD, hS, lv_sub hl [0, 1, 2, 3] rfl⟩

set_option maxHeartbeats 4000000 in
set_option maxRecDepth 100000 in
theorem c_X1_wake (l : Launch) (G : va_G) (k : Nat → ClassId) (c : Nat → Nat) (M : Nat → Nat → Int32) (ds : Nat) (n1 : Nat) (sz : Nat) (i : Nat) (t : Int32) (hND : va_D (fun _ => True) (W1 k c M ds n1)) (hi : i < 80) : Met l yX1_wake wsX1_wake ({ frames := 0, cells := 0, slots := 0, locals := 0 }) (va_Pc [.ref (c 0), .int (nI i), .int t] (yBs G (yT k) (W1 k c M ds n1) sz)) (va_Qv (fun (_ : Unit) => True) (fun _ τ => va_P G vwCl (W1 k c (w2 (w2 (w2 M 5 i 119) 6 i t) 7 i 0) ds n1) τ.heap) (va_A (W1 k c M ds n1) sz)) 0 0 (va_A (W1 k c M ds n1) sz) := by
  refine Met.ofW (cc := cX1_wake) (maxL := 3) (ret := none) (by decide) rfl ?_
  intro p e s m args below meth c_ s₁ B hml hv
  obtain ⟨rfl, hsz, hP, hK⟩ := hv
  have hx := B.exec
  have hb := B.bytes
  have hr := B.returns
  have hts := atoms_spec (ws := wsX1_wake) B.pre
  have hown : s.vm.findClass RX1 = some m.cls := findClass_of_methodNamed B.named
  have hlocks := B.notSynchronized
  have hsz0 : (8 : Nat) < 2 ^ 31 := by decide
  have hsz1 : (80 : Nat) < 2 ^ 31 := by decide
  subst hsz
  have hD := hND.self (sz := s.heap.size)
  generalize hAe : va_A (W1 k c M ds n1) s.heap.size = A at hD ⊢
  have hA : ∀ q : Nat, s.heap.size ≤ q → A q := fun q h => by rw [← hAe]; exact Or.inr h
  have hS : va_S A s.heap s.heap [] := va_S.rf
  have hinX1 : ∀ w ∈ u_ws RX1 TX1 13, w ∈ wsX1_wake := by decide +kernel
  have fl28 := hts (.fieldLink RX1 28 "DunningDesk$MessageBook" "states" "[C") (by decide +kernel)
  have fl31 := hts (.fieldLink RX1 31 "DunningDesk$MessageBook" "readyDays" "[I") (by decide +kernel)
  have fl34 := hts (.fieldLink RX1 34 "DunningDesk$MessageBook" "triesMade" "[I") (by decide +kernel)
  have hl := lv_entry [.ref (c 0), .int (nI i), .int t] (n := 3) (Nat.le_of_ble_eq_true rfl)
  rw [lg_entry_eq]
  generalize (lg_sl [.ref (c 0), .int (nI i), .int t] ++ List.replicate (3 - (lg_sl [.ref (c 0), .int (nI i), .int t]).length) Slot.unset).toArray = ls at hl ⊢
  have hl : lv_has ls 3 [(0, .ref (c 0)), (1, .int (nI i)), (2, .int t)] := hl
  refine lv_aload_n hx hb dX1_wake_0 rfl (lv_at hl 0 rfl) ?_
  refine va_get (D := G) (ci := 3) (v := .ref (c 6)) (C := RX1) (T := TX1) (N := 13) hx hb hts hinX1 hown hK hP 0 rfl rfl 5 (by decide) fl28 (fun _ h9 => h9) rfl dX1_wake_1 ?_
  refine lv_iload_n hx hb dX1_wake_4 rfl (lv_at hl 1 rfl) ?_
  refine lv_bipush (v := 119) hx hb dX1_wake_5 (by decide) ?_
  refine y_cast (ws' := W1 k c (w2 M 5 i 119) ds n1) (j := i) (x := 119) hx hb hK hP hD hS 6 2 rfl rfl (by omega) hsz1 (by decide) rfl dX1_wake_7 (fun H locs hP hD hS => ?_)
  refine lv_aload_n hx hb dX1_wake_8 rfl (lv_at hl 0 rfl) ?_
  refine va_get (D := G) (ci := 3) (v := .ref (c 7)) (C := RX1) (T := TX1) (N := 13) hx hb hts hinX1 hown hK hP 0 rfl rfl 6 (by decide) fl31 (fun _ h9 => h9) rfl dX1_wake_9 ?_
  refine lv_iload_n hx hb dX1_wake_12 rfl (lv_at hl 1 rfl) ?_
  refine lv_iload_n hx hb dX1_wake_13 rfl (lv_at hl 2 rfl) ?_
  refine y_iast (ws' := W1 k c (w2 (w2 M 5 i 119) 6 i t) ds n1) (j := i) (x := t) hx hb hK hP hD hS 7 0 rfl rfl (by omega) hsz1 rfl dX1_wake_14 (fun H locs hP hD hS => ?_)
  refine lv_aload_n hx hb dX1_wake_15 rfl (lv_at hl 0 rfl) ?_
  refine va_get (D := G) (ci := 3) (v := .ref (c 8)) (C := RX1) (T := TX1) (N := 13) hx hb hts hinX1 hown hK hP 0 rfl rfl 7 (by decide) fl34 (fun _ h9 => h9) rfl dX1_wake_16 ?_
  refine lv_iload_n hx hb dX1_wake_19 rfl (lv_at hl 1 rfl) ?_
  refine lv_iconst (v := 0) hx hb dX1_wake_20 (by decide) ?_
  refine y_iast (ws' := W1 k c (w2 (w2 (w2 M 5 i 119) 6 i t) 7 i 0) ds n1) (j := i) (x := 0) hx hb hK hP hD hS 8 0 rfl rfl (by omega) hsz1 rfl dX1_wake_21 (fun H locs hP hD hS => ?_)
  have hPf : va_P G vwCl (W1 k c (w2 (w2 (w2 M 5 i 119) 6 i t) 7 i 0) ds n1) H := by exact hP
  exact W.vret hx hb hr (fun τ hτ hW => ⟨⟨(), rfl, trivial, yPt hPf hτ⟩, hS.F hτ⟩) hS.2.2 dX1_wake_22

set_option maxHeartbeats 4000000 in
set_option maxRecDepth 100000 in
theorem c_X1_lettersFrom (l : Launch) (G : va_G) (k : Nat → ClassId) (c : Nat → Nat) (M : Nat → Nat → Int32) (ds : Nat) (n1 : Nat) (cs fa : Int32) (hn : n1 ≤ 80) (hd : ds ≤ 80) : Met l yX1_lettersFrom wsX1_lettersFrom ({ frames := 1, cells := 0, slots := 0, locals := 21 }) (va_Pc [.ref (c 0), .int cs, .int fa] (yB G (yT k) (W1 k c M ds n1))) (vp_Si (fun r => r = nI (lfr M cs n1 ds 0 (fa, 0)).2)) 0 0 (fun _ => False) := by
  refine Met.ofW (cc := cX1_lettersFrom) (maxL := 7) (ret := (some .int)) (by decide) rfl ?_
  intro p e s m args below meth c_ s₁ B hml hv
  obtain ⟨rfl, hP, hK⟩ := hv
  have hx := B.exec
  have hb := B.bytes
  have hr := B.returns
  have hts := atoms_spec (ws := wsX1_lettersFrom) B.pre
  have hown : s.vm.findClass RX1 = some m.cls := findClass_of_methodNamed B.named
  have hlocks := B.notSynchronized
  have hsz0 : (8 : Nat) < 2 ^ 31 := by decide
  have hsz1 : (80 : Nat) < 2 ^ 31 := by decide
  have hinX1 : ∀ w ∈ u_ws RX1 TX1 13, w ∈ wsX1_lettersFrom := by decide +kernel
  have fl64 := hts (.fieldLink RX1 64 "DunningDesk$MessageBook" "doneSize" "I") (by decide +kernel)
  have fl43 := hts (.fieldLink RX1 43 "DunningDesk$MessageBook" "doneOrder" "[I") (by decide +kernel)
  have fl22 := hts (.fieldLink RX1 22 "DunningDesk$MessageBook" "caseNumbers" "[I") (by decide +kernel)
  have fl18 := hts (.fieldLink RX1 18 "DunningDesk$MessageBook" "kinds" "[C") (by decide +kernel)
  have fl25 := hts (.fieldLink RX1 25 "DunningDesk$MessageBook" "contents" "[I") (by decide +kernel)
  have hl := lv_entry [.ref (c 0), .int cs, .int fa] (n := 7) (Nat.le_of_ble_eq_true rfl)
  rw [lg_entry_eq]
  generalize (lg_sl [.ref (c 0), .int cs, .int fa] ++ List.replicate (7 - (lg_sl [.ref (c 0), .int cs, .int fa]).length) Slot.unset).toArray = ls at hl ⊢
  have hl : lv_has ls 7 [(0, .ref (c 0)), (1, .int cs), (2, .int fa)] := hl
  refine lv_iload_n hx hb dX1_lettersFrom_0 rfl (lv_at hl 2 rfl) ?_
  refine lv_istore_n (lv' := [(3, .int fa), (0, .ref (c 0)), (1, .int cs), (2, .int fa)]) hx hb dX1_lettersFrom_1 rfl hl (by decide) rfl (fun ls hl => ?_)
  refine lv_iconst (v := 0) hx hb dX1_lettersFrom_2 (by decide) ?_
  refine lv_istore (lv' := [(4, .int 0), (3, .int fa), (0, .ref (c 0)), (1, .int cs), (2, .int fa)]) hx hb dX1_lettersFrom_3 hl (by decide) rfl (fun ls hl => ?_)
  refine lv_iconst (v := 0) hx hb dX1_lettersFrom_5 (by decide) ?_
  refine lv_istore (lv' := [(5, .int 0), (4, .int 0), (3, .int fa), (0, .ref (c 0)), (1, .int cs), (2, .int fa)]) hx hb dX1_lettersFrom_6 hl (by decide) rfl (fun ls hl => ?_)
  have hl : lv_has ls 7 [(5, .int (nI 0)), (4, .int (nI 0)), (3, .int fa), (0, .ref (c 0)), (1, .int cs), (2, .int fa)] := lv_sub hl [0, 1, 2, 3, 4, 5] rfl
  refine y_loop (σ := Nat × Int32 × Nat) (fun r xσ H locs ls => xσ.1 + r = ds ∧ xσ.2.2 ≤ xσ.1 ∧ lfr M cs n1 ds 0 (fa, 0) = lfr M cs n1 r xσ.1 (xσ.2.1, xσ.2.2) ∧ H = s.heap ∧ locs = [] ∧ lv_has ls 7 [(5, .int (nI xσ.1)), (4, .int (nI xσ.2.2)), (3, .int xσ.2.1), (0, .ref (c 0)), (1, .int cs), (2, .int fa)]) (fun r xσ H locs ls hI ih8 => ?_) ds (0, fa, 0) _ _ _ ⟨(by first | omega | (dsimp only; omega)), (by first | omega | (dsimp only; omega)), rfl, rfl, rfl, hl⟩
  obtain ⟨p9, ow, sn⟩ := xσ
  obtain ⟨hi, hsn, hv, rfl, rfl, hl⟩ := hI
  dsimp only at hi hsn hv hl
  refine lv_iload hx hb dX1_lettersFrom_8 (lv_at hl 0 rfl) ?_
  refine lv_aload_n hx hb dX1_lettersFrom_10 rfl (lv_at hl 3 rfl) ?_
  refine va_get (D := G) (ci := 3) (v := .int (nI ds)) (C := RX1) (T := TX1) (N := 13) hx hb hts hinX1 hown hK hP 0 rfl rfl 11 (by decide) fl64 (fun _ h9 => h9) rfl dX1_lettersFrom_11 ?_
  refine lv_icmp_ge (tgt := 112) hx hb dX1_lettersFrom_14 (by decide) (fun c14 => ?_) (fun c14 => ?_)
  · replace c14 : ds ≤ p9 := (nI_leI (a := ds) (b := p9) (by omega) (by omega)).mp c14
    refine lv_iload hx hb dX1_lettersFrom_112 (lv_at hl 1 rfl) ?_
    exact W.iret (v := (nI sn)) hx hb hr (fun τ hτ _ => ⟨_, rfl, (by (obtain rfl : r = 0 := by omega); rw [hv]; rfl), hτ⟩) (fun _ h9 => nomatch h9) dX1_lettersFrom_114
  · replace c14 : ¬ ds ≤ p9 := fun h9 => c14 ((nI_leI (a := ds) (b := p9) (by omega) (by omega)).mpr h9)
    obtain ⟨r', rfl⟩ : ∃ r', r = r' + 1 := ⟨r - 1, by omega⟩
    refine lv_aload_n hx hb dX1_lettersFrom_17 rfl (lv_at hl 3 rfl) ?_
    refine va_get (D := G) (ci := 3) (v := .ref (c 11)) (C := RX1) (T := TX1) (N := 13) hx hb hts hinX1 hown hK hP 0 rfl rfl 10 (by decide) fl43 (fun _ h9 => h9) rfl dX1_lettersFrom_18 ?_
    refine lv_iload hx hb dX1_lettersFrom_21 (lv_at hl 0 rfl) ?_
    refine y_iald hx hb hK hP 11 0 rfl rfl (j := p9) (by omega) hsz1 dX1_lettersFrom_23 ?_
    refine lv_istore (lv' := [(6, .int (M 10 p9)), (5, .int (nI p9)), (4, .int (nI sn)), (3, .int ow), (0, .ref (c 0)), (1, .int cs), (2, .int fa)]) hx hb dX1_lettersFrom_24 hl (by decide) rfl (fun ls hl => ?_)
    refine lv_aload_n hx hb dX1_lettersFrom_26 rfl (lv_at hl 4 rfl) ?_
    refine lv_iload hx hb dX1_lettersFrom_27 (lv_at hl 0 rfl) ?_
    refine y_roV (As := [.int (M 10 p9)]) (rest := []) ⟨hx, hb, hml, hown, hts⟩ (c_X1_contains l G k c M ds n1 (M 10 p9) (by omega)) (cwV 1 hts gX1_lettersFrom_X1_contains rfl rfl rfl (by decide +kernel) ⟨Nat.le_of_ble_eq_true rfl, Nat.le_of_ble_eq_true rfl⟩) hK hP (va_recv hK hP (ci := 3) (q0 := 0) rfl rfl) rfl hl.1 rfl (Nat.le_of_ble_eq_true rfl) dX1_lettersFrom_29 ⟨Nat.le_of_ble_eq_true rfl, Nat.le_of_ble_eq_true rfl⟩ (fun r hr9 => ?_)
    subst hr9
    refine lv_if_eq (tgt := 106) hx hb dX1_lettersFrom_32 (by decide) (fun c32 => ?_) (fun c32 => ?_)
    · replace c32 := b2_of0 c32
      refine lv_iinc (v := nI (p9 + 1)) (lv' := [(5, .int (nI (p9 + 1))), (6, .int (M 10 p9)), (4, .int (nI sn)), (3, .int ow), (0, .ref (c 0)), (1, .int cs), (2, .int fa)]) hx hb dX1_lettersFrom_106 hl (k := 1) rfl (nI_1 p9) (by decide) rfl (fun ls hl => ?_)
      refine lv_goto (tgt := 8) hx hb dX1_lettersFrom_109 (by decide) ?_
      exact ih8 r' (p9 + 1, ow, sn) _ _ _ (by omega) ⟨(by first | omega | (dsimp only; omega)), (by first | omega | (dsimp only; omega)), (by rw [hv]; apply lfr_1; unfold lst; first | exact if_neg (fun h9 => c32 h9.1) | (rw [ej, nI_clamp (by omega)]; first | exact if_neg (fun h9 => c43 h9.2) | (rw [if_pos ⟨ej ▸ c32, c43⟩]; first | exact if_pos c55 | (rw [if_neg c55]; first | exact if_neg (fun h9 => c84 h9.1) | exact if_neg (fun h9 => absurd h9.2.1 (Int32.not_lt.mpr c88)) | exact if_neg (fun h9 => c100 h9.2.2) | exact if_pos ⟨c84, Int32.not_le.mp c88, c100⟩)))), rfl, rfl, lv_sub hl [0, 2, 3, 4, 5, 6] rfl⟩
    · replace c32 := b2_of1 c32
      obtain ⟨j, hj, ej⟩ := inR_of (by omega) c32
      rw [ej] at hl
      refine lv_aload_n hx hb dX1_lettersFrom_35 rfl (lv_at hl 4 rfl) ?_
      refine va_get (D := G) (ci := 3) (v := .ref (c 4)) (C := RX1) (T := TX1) (N := 13) hx hb hts hinX1 hown hK hP 0 rfl rfl 3 (by decide) fl22 (fun _ h9 => h9) rfl dX1_lettersFrom_36 ?_
      refine lv_iload hx hb dX1_lettersFrom_39 (lv_at hl 0 rfl) ?_
      refine y_iald hx hb hK hP 4 0 rfl rfl (j := j) (by omega) hsz1 dX1_lettersFrom_41 ?_
      refine lv_iload_n hx hb dX1_lettersFrom_42 rfl (lv_at hl 5 rfl) ?_
      refine lv_icmp_ne (tgt := 106) hx hb dX1_lettersFrom_43 (by decide) (fun c43 => ?_) (fun c43 => ?_)
      · skip
        refine lv_iinc (v := nI (p9 + 1)) (lv' := [(5, .int (nI (p9 + 1))), (6, .int (nI j)), (4, .int (nI sn)), (3, .int ow), (0, .ref (c 0)), (1, .int cs), (2, .int fa)]) hx hb dX1_lettersFrom_106 hl (k := 1) rfl (nI_1 p9) (by decide) rfl (fun ls hl => ?_)
        refine lv_goto (tgt := 8) hx hb dX1_lettersFrom_109 (by decide) ?_
        exact ih8 r' (p9 + 1, ow, sn) _ _ _ (by omega) ⟨(by first | omega | (dsimp only; omega)), (by first | omega | (dsimp only; omega)), (by rw [hv]; apply lfr_1; unfold lst; first | exact if_neg (fun h9 => c32 h9.1) | (rw [ej, nI_clamp (by omega)]; first | exact if_neg (fun h9 => c43 h9.2) | (rw [if_pos ⟨ej ▸ c32, c43⟩]; first | exact if_pos c55 | (rw [if_neg c55]; first | exact if_neg (fun h9 => c84 h9.1) | exact if_neg (fun h9 => absurd h9.2.1 (Int32.not_lt.mpr c88)) | exact if_neg (fun h9 => c100 h9.2.2) | exact if_pos ⟨c84, Int32.not_le.mp c88, c100⟩)))), rfl, rfl, lv_sub hl [0, 2, 3, 4, 5, 6] rfl⟩
      · skip
        refine lv_aload_n hx hb dX1_lettersFrom_46 rfl (lv_at hl 4 rfl) ?_
        refine va_get (D := G) (ci := 3) (v := .ref (c 3)) (C := RX1) (T := TX1) (N := 13) hx hb hts hinX1 hown hK hP 0 rfl rfl 2 (by decide) fl18 (fun _ h9 => h9) rfl dX1_lettersFrom_47 ?_
        refine lv_iload hx hb dX1_lettersFrom_50 (lv_at hl 0 rfl) ?_
        refine y_cald hx hb hK hP 3 2 rfl rfl (j := j) (by omega) hsz1 dX1_lettersFrom_52 ?_
        refine lv_bipush (v := 112) hx hb dX1_lettersFrom_53 (by decide) ?_
        refine lv_icmp_ne (tgt := 75) hx hb dX1_lettersFrom_55 (by decide) (fun c55 => ?_) (fun c55 => ?_)
        · skip
          refine lv_aload_n hx hb dX1_lettersFrom_75 rfl (lv_at hl 4 rfl) ?_
          refine va_get (D := G) (ci := 3) (v := .ref (c 3)) (C := RX1) (T := TX1) (N := 13) hx hb hts hinX1 hown hK hP 0 rfl rfl 2 (by decide) fl18 (fun _ h9 => h9) rfl dX1_lettersFrom_76 ?_
          refine lv_iload hx hb dX1_lettersFrom_79 (lv_at hl 0 rfl) ?_
          refine y_cald hx hb hK hP 3 2 rfl rfl (j := j) (by omega) hsz1 dX1_lettersFrom_81 ?_
          refine lv_bipush (v := 114) hx hb dX1_lettersFrom_82 (by decide) ?_
          refine lv_icmp_ne (tgt := 106) hx hb dX1_lettersFrom_84 (by decide) (fun c84 => ?_) (fun c84 => ?_)
          · skip
            refine lv_iinc (v := nI (p9 + 1)) (lv' := [(5, .int (nI (p9 + 1))), (6, .int (nI j)), (4, .int (nI sn)), (3, .int ow), (0, .ref (c 0)), (1, .int cs), (2, .int fa)]) hx hb dX1_lettersFrom_106 hl (k := 1) rfl (nI_1 p9) (by decide) rfl (fun ls hl => ?_)
            refine lv_goto (tgt := 8) hx hb dX1_lettersFrom_109 (by decide) ?_
            exact ih8 r' (p9 + 1, ow, sn) _ _ _ (by omega) ⟨(by first | omega | (dsimp only; omega)), (by first | omega | (dsimp only; omega)), (by rw [hv]; apply lfr_1; unfold lst; first | exact if_neg (fun h9 => c32 h9.1) | (rw [ej, nI_clamp (by omega)]; first | exact if_neg (fun h9 => c43 h9.2) | (rw [if_pos ⟨ej ▸ c32, c43⟩]; first | exact if_pos c55 | (rw [if_neg c55]; first | exact if_neg (fun h9 => c84 h9.1) | exact if_neg (fun h9 => absurd h9.2.1 (Int32.not_lt.mpr c88)) | exact if_neg (fun h9 => c100 h9.2.2) | exact if_pos ⟨c84, Int32.not_le.mp c88, c100⟩)))), rfl, rfl, lv_sub hl [0, 2, 3, 4, 5, 6] rfl⟩
          · skip
            refine lv_iload_n hx hb dX1_lettersFrom_87 rfl (lv_at hl 3 rfl) ?_
            refine lv_if_le (tgt := 106) hx hb dX1_lettersFrom_88 (by decide) (fun c88 => ?_) (fun c88 => ?_)
            · skip
              refine lv_iinc (v := nI (p9 + 1)) (lv' := [(5, .int (nI (p9 + 1))), (6, .int (nI j)), (4, .int (nI sn)), (3, .int ow), (0, .ref (c 0)), (1, .int cs), (2, .int fa)]) hx hb dX1_lettersFrom_106 hl (k := 1) rfl (nI_1 p9) (by decide) rfl (fun ls hl => ?_)
              refine lv_goto (tgt := 8) hx hb dX1_lettersFrom_109 (by decide) ?_
              exact ih8 r' (p9 + 1, ow, sn) _ _ _ (by omega) ⟨(by first | omega | (dsimp only; omega)), (by first | omega | (dsimp only; omega)), (by rw [hv]; apply lfr_1; unfold lst; first | exact if_neg (fun h9 => c32 h9.1) | (rw [ej, nI_clamp (by omega)]; first | exact if_neg (fun h9 => c43 h9.2) | (rw [if_pos ⟨ej ▸ c32, c43⟩]; first | exact if_pos c55 | (rw [if_neg c55]; first | exact if_neg (fun h9 => c84 h9.1) | exact if_neg (fun h9 => absurd h9.2.1 (Int32.not_lt.mpr c88)) | exact if_neg (fun h9 => c100 h9.2.2) | exact if_pos ⟨c84, Int32.not_le.mp c88, c100⟩)))), rfl, rfl, lv_sub hl [0, 2, 3, 4, 5, 6] rfl⟩
            · skip
              refine lv_aload_n hx hb dX1_lettersFrom_91 rfl (lv_at hl 4 rfl) ?_
              refine va_get (D := G) (ci := 3) (v := .ref (c 5)) (C := RX1) (T := TX1) (N := 13) hx hb hts hinX1 hown hK hP 0 rfl rfl 4 (by decide) fl25 (fun _ h9 => h9) rfl dX1_lettersFrom_92 ?_
              refine lv_iload hx hb dX1_lettersFrom_95 (lv_at hl 0 rfl) ?_
              refine y_iald hx hb hK hP 5 0 rfl rfl (j := j) (by omega) hsz1 dX1_lettersFrom_97 ?_
              refine lv_iload hx hb dX1_lettersFrom_98 (lv_at hl 2 rfl) ?_
              refine lv_icmp_ne (tgt := 106) hx hb dX1_lettersFrom_100 (by decide) (fun c100 => ?_) (fun c100 => ?_)
              · skip
                refine lv_iinc (v := nI (p9 + 1)) (lv' := [(5, .int (nI (p9 + 1))), (6, .int (nI j)), (4, .int (nI sn)), (3, .int ow), (0, .ref (c 0)), (1, .int cs), (2, .int fa)]) hx hb dX1_lettersFrom_106 hl (k := 1) rfl (nI_1 p9) (by decide) rfl (fun ls hl => ?_)
                refine lv_goto (tgt := 8) hx hb dX1_lettersFrom_109 (by decide) ?_
                exact ih8 r' (p9 + 1, ow, sn) _ _ _ (by omega) ⟨(by first | omega | (dsimp only; omega)), (by first | omega | (dsimp only; omega)), (by rw [hv]; apply lfr_1; unfold lst; first | exact if_neg (fun h9 => c32 h9.1) | (rw [ej, nI_clamp (by omega)]; first | exact if_neg (fun h9 => c43 h9.2) | (rw [if_pos ⟨ej ▸ c32, c43⟩]; first | exact if_pos c55 | (rw [if_neg c55]; first | exact if_neg (fun h9 => c84 h9.1) | exact if_neg (fun h9 => absurd h9.2.1 (Int32.not_lt.mpr c88)) | exact if_neg (fun h9 => c100 h9.2.2) | exact if_pos ⟨c84, Int32.not_le.mp c88, c100⟩)))), rfl, rfl, lv_sub hl [0, 2, 3, 4, 5, 6] rfl⟩
              · skip
                refine lv_iinc (v := nI (sn + 1)) (lv' := [(4, .int (nI (sn + 1))), (6, .int (nI j)), (5, .int (nI p9)), (3, .int ow), (0, .ref (c 0)), (1, .int cs), (2, .int fa)]) hx hb dX1_lettersFrom_103 hl (k := 2) rfl (nI_1 sn) (by decide) rfl (fun ls hl => ?_)
                refine lv_iinc (v := nI (p9 + 1)) (lv' := [(5, .int (nI (p9 + 1))), (4, .int (nI (sn + 1))), (6, .int (nI j)), (3, .int ow), (0, .ref (c 0)), (1, .int cs), (2, .int fa)]) hx hb dX1_lettersFrom_106 hl (k := 2) rfl (nI_1 p9) (by decide) rfl (fun ls hl => ?_)
                refine lv_goto (tgt := 8) hx hb dX1_lettersFrom_109 (by decide) ?_
                exact ih8 r' (p9 + 1, ow, sn + 1) _ _ _ (by omega) ⟨(by first | omega | (dsimp only; omega)), (by first | omega | (dsimp only; omega)), (by rw [hv]; apply lfr_1; unfold lst; first | exact if_neg (fun h9 => c32 h9.1) | (rw [ej, nI_clamp (by omega)]; first | exact if_neg (fun h9 => c43 h9.2) | (rw [if_pos ⟨ej ▸ c32, c43⟩]; first | exact if_pos c55 | (rw [if_neg c55]; first | exact if_neg (fun h9 => c84 h9.1) | exact if_neg (fun h9 => absurd h9.2.1 (Int32.not_lt.mpr c88)) | exact if_neg (fun h9 => c100 h9.2.2) | exact if_pos ⟨c84, Int32.not_le.mp c88, c100⟩)))), rfl, rfl, lv_sub hl [0, 1, 3, 4, 5, 6] rfl⟩
        · skip
          refine lv_iconst (v := 0) hx hb dX1_lettersFrom_58 (by decide) ?_
          refine lv_iload_n hx hb dX1_lettersFrom_59 rfl (lv_at hl 3 rfl) ?_
          refine lv_aload_n hx hb dX1_lettersFrom_60 rfl (lv_at hl 4 rfl) ?_
          refine va_get (D := G) (ci := 3) (v := .ref (c 5)) (C := RX1) (T := TX1) (N := 13) hx hb hts hinX1 hown hK hP 0 rfl rfl 4 (by decide) fl25 (fun _ h9 => h9) rfl dX1_lettersFrom_61 ?_
          refine lv_iload hx hb dX1_lettersFrom_64 (lv_at hl 0 rfl) ?_
          refine y_iald hx hb hK hP 5 0 rfl rfl (j := j) (by omega) hsz1 dX1_lettersFrom_66 ?_
          refine lv_isub hx hb dX1_lettersFrom_67 ?_
          refine va_mmax hx hb (hml.trans hl.1.symm) hown (hts (.methodLink RX1 50 Lib.Math.max.name) (by decide +kernel)) (hts (.static Lib.Math.max.name) (by decide +kernel)) (hts (.initialized "java/lang/Math") (by decide +kernel)) (hts (.code Lib.Math.max.name Lib.Math.max.code 2 (some .int)) (by decide +kernel)) (Nat.le_of_ble_eq_true rfl) (Nat.le_of_ble_eq_true rfl) (Nat.le_of_ble_eq_true rfl) (Nat.le_of_ble_eq_true rfl) dX1_lettersFrom_68 ?_
          refine y_top (y := mx 0 (ow - (M 4 j))) rfl ?_
          refine lv_istore_n (lv' := [(3, .int (mx 0 (ow - (M 4 j)))), (6, .int (nI j)), (5, .int (nI p9)), (4, .int (nI sn)), (0, .ref (c 0)), (1, .int cs), (2, .int fa)]) hx hb dX1_lettersFrom_71 rfl hl (by decide) rfl (fun ls hl => ?_)
          refine lv_goto (tgt := 106) hx hb dX1_lettersFrom_72 (by decide) ?_
          refine lv_iinc (v := nI (p9 + 1)) (lv' := [(5, .int (nI (p9 + 1))), (3, .int (mx 0 (ow - (M 4 j)))), (6, .int (nI j)), (4, .int (nI sn)), (0, .ref (c 0)), (1, .int cs), (2, .int fa)]) hx hb dX1_lettersFrom_106 hl (k := 2) rfl (nI_1 p9) (by decide) rfl (fun ls hl => ?_)
          refine lv_goto (tgt := 8) hx hb dX1_lettersFrom_109 (by decide) ?_
          exact ih8 r' (p9 + 1, mx 0 (ow - (M 4 j)), sn) _ _ _ (by omega) ⟨(by first | omega | (dsimp only; omega)), (by first | omega | (dsimp only; omega)), (by rw [hv]; apply lfr_1; unfold lst; first | exact if_neg (fun h9 => c32 h9.1) | (rw [ej, nI_clamp (by omega)]; first | exact if_neg (fun h9 => c43 h9.2) | (rw [if_pos ⟨ej ▸ c32, c43⟩]; first | exact if_pos c55 | (rw [if_neg c55]; first | exact if_neg (fun h9 => c84 h9.1) | exact if_neg (fun h9 => absurd h9.2.1 (Int32.not_lt.mpr c88)) | exact if_neg (fun h9 => c100 h9.2.2) | exact if_pos ⟨c84, Int32.not_le.mp c88, c100⟩)))), rfl, rfl, lv_sub hl [0, 3, 1, 4, 5, 6] rfl⟩
