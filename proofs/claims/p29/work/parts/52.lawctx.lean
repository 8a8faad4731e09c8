/-! the law's own body: what holds at its entry, and where its pieces go on -/
set_option maxHeartbeats 4000000 in
theorem c_some (l : Launch) (v : Int32) (n : Nat) (hn : 0 < n) (hn2 : n < 2 ^ 31) : Met l yL_some wsL_some ({ frames := 0, cells := 0, slots := 0, locals := 0 }) (va_Pc [.int v, .int (nI n)] (fun _ => True)) (vp_Si (fun r => ∃ z : Nat, z < n ∧ r = nI z)) 0 0 (fun _ => False) := by
  refine Met.ofW (cc := cL_some) (maxL := 3) (ret := (some .int)) (by decide) rfl ?_
  intro p e s m args below meth c_ s₁ B hml hv
  obtain ⟨rfl, -⟩ := hv
  have hx := B.exec
  have hb := B.bytes
  have hr := B.returns
  have hm : (v % nI n).toInt = v.toInt.tmod (n : Int) := by rw [Int32.toInt_mod, nI_toInt hn2]
  have hm1 := Int.tmod_lt_of_pos v.toInt (show (0 : Int) < n by omega)
  have hm2 := Int.lt_tmod_of_pos v.toInt (show (0 : Int) < n by omega)
  have hl := lv_entry ([.int v, .int (nI n)]) (n := 3) (Nat.le_of_ble_eq_true rfl)
  rw [lg_entry_eq]
  generalize (lg_sl ([.int v, .int (nI n)]) ++ List.replicate (3 - (lg_sl ([.int v, .int (nI n)])).length) Slot.unset).toArray = ls at hl ⊢
  have hl : lv_has ls 3 [(0, .int v), (1, .int (nI n))] := hl
  refine lv_iload_n hx hb dL_some_0 rfl (lv_at hl 0 rfl) ?_
  refine lv_iload_n hx hb dL_some_1 rfl (lv_at hl 1 rfl) ?_
  refine lv_irem hx hb dL_some_2 (fun h9 => nI_ne0 hn hn2 h9) ?_
  refine y_top (irem_eq_mod _ _) ?_
  refine lv_istore_n (lv' := [(2, .int (v % nI n)), (0, .int v), (1, .int (nI n))]) hx hb dL_some_3 rfl hl (by decide) rfl (fun ls hl => ?_)
  refine lv_iload_n hx hb dL_some_4 rfl (lv_at hl 0 rfl) ?_
  refine lv_if_ge (tgt := 14) hx hb dL_some_5 (by decide) (fun c5 => ?_) (fun c5 => ?_)
  · refine lv_iload_n hx hb dL_some_14 rfl (lv_at hl 0 rfl) ?_
    obtain ⟨z, hz, e9⟩ := nI_of (x := v % nI n) (Int32.not_lt.mpr c5)
    have h1 : z < n := by rw [e9, nI_toInt hz] at hm; omega
    exact W.iret (v := v % nI n) hx hb hr (fun τ hτ _ => ⟨_, rfl, ⟨z, h1, e9⟩, hτ⟩) (fun _ h9 => nomatch h9) dL_some_15
  · refine lv_iload_n hx hb dL_some_8 rfl (lv_at hl 0 rfl) ?_
    refine lv_iload_n hx hb dL_some_9 rfl (lv_at hl 2 rfl) ?_
    refine lv_iadd hx hb dL_some_10 ?_
    refine lv_goto (tgt := 15) hx hb dL_some_11 (by decide) ?_
    have h5 : (v % nI n).toInt < 0 := Int32.lt_iff_toInt_lt.mp (Int32.not_le.mp c5)
    have h6 : (v % nI n + nI n).toInt = v.toInt.tmod (n : Int) + n := by
      rw [Int32.toInt_add, hm, nI_toInt hn2, Int.bmod_def]
      rw [hm] at h5
      split <;> omega
    have h7 : ¬ v % nI n + nI n < 0 := fun h9 => by
      have h8 := Int32.lt_iff_toInt_lt.mp h9
      rw [h6, show (0 : Int32).toInt = 0 from rfl] at h8
      omega
    obtain ⟨z, hz, e9⟩ := nI_of h7
    have h1 : z < n := by
      rw [e9, nI_toInt hz] at h6
      rw [hm] at h5
      omega
    exact W.iret (v := v % nI n + nI n) hx hb hr (fun τ hτ _ => ⟨_, rfl, ⟨z, h1, e9⟩, hτ⟩) (fun _ h9 => nomatch h9) dL_some_15
set_option maxHeartbeats 4000000 in
theorem c_at (l : Launch) (b L : Nat) (xs : Nat → Int32) (x : Int32) (sz : Nat) (hL : L ≤ 260) (h0 : ¬ x < 0) : Met l yL_at wsL_at ({ frames := 0, cells := 0, slots := 0, locals := 0 }) (va_Pc [.ref b, .int x] (fun U => U.heap.size = sz ∧ va_X b L xs U U.heap ∧ b < sz)) (va_Qi (fun (_ : Int32) (_ : Unit) => True) (fun _ _ => True) (fun q : Nat => sz ≤ q)) 0 0 (fun q : Nat => sz ≤ q) := by
  refine Met.ofW (cc := cL_at) (maxL := 2) (ret := (some .int)) (by decide) rfl ?_
  intro p e s m args below meth c_ s₁ B hml hv
  obtain ⟨rfl, hsz, hX, hbl⟩ := hv
  have hx := B.exec
  have hb := B.bytes
  have hr := B.returns
  subst hsz
  have hS : yO s s.heap [] := yO_rf
  have hbA : ¬ (fun q : Nat => s.heap.size ≤ q) b := Nat.not_le.mpr hbl
  have hl := lv_entry ([.ref b, .int x]) (n := 2) (Nat.le_of_ble_eq_true rfl)
  rw [lg_entry_eq]
  generalize (lg_sl ([.ref b, .int x]) ++ List.replicate (2 - (lg_sl ([.ref b, .int x])).length) Slot.unset).toArray = ls at hl ⊢
  have hl : lv_has ls 2 [(0, .ref b), (1, .int x)] := hl
  refine lv_iload_n hx hb dL_at_0 rfl (lv_at hl 1 rfl) ?_
  refine lv_aload_n hx hb dL_at_1 rfl (lv_at hl 0 rfl) ?_
  refine va_slen hx hb hX hbl hbA hS dL_at_2 ?_
  refine lv_icmp_ge (tgt := 12) hx hb dL_at_3 (by decide) (fun c9 => ?_) (fun c9 => ?_)
  · refine lv_iconst (v := 0) hx hb dL_at_12 (by decide) ?_
    exact W.iret (v := 0) hx hb hr (fun τ hτ hW => ⟨⟨_, (), rfl, trivial, trivial⟩, hS.F hτ⟩) hS.2.2 dL_at_13
  · refine lv_aload_n hx hb dL_at_6 rfl (lv_at hl 0 rfl) ?_
    refine lv_iload_n hx hb dL_at_7 rfl (lv_at hl 1 rfl) ?_
    obtain ⟨j, hj, rfl⟩ := nI_of h0
    have h1 : j < L := Nat.not_le.mp (fun h9 => c9 ((nI_leI (a := L) (b := j) (by omega) hj).mpr h9))
    refine va_sld hx hb hX hbl hbA hS (vp_in_nI h1 (by omega)) dL_at_8 ?_
    refine lv_goto (tgt := 13) hx hb dL_at_9 (by decide) ?_
    exact W.iret (v := xs (nI j).toNatClampNeg) hx hb hr (fun τ hτ hW => ⟨⟨_, (), rfl, trivial, trivial⟩, hS.F hτ⟩) hS.2.2 dL_at_13
theorem yXp {s : State} {H : Heap} {locs : List Loc} {b L : Nat} {xs : Nat → Int32} {As : List Value} (hX : va_X b L xs s s.heap) (hbl : b < s.heap.size) (hS : yO s H locs) : PreS s H (va_Pc As (fun U => U.heap.size = H.size ∧ va_X b L xs U U.heap ∧ b < H.size)) As :=
  ⟨fun a U g mk q => ⟨q.1, q.2.1, va_X.moved (u := U) (U := U.calling g mk a) (Vm.Alike.refl U.vm) q.2.2.1, q.2.2.2⟩, fun U hU hW => ⟨rfl, by rw [hU], by rw [hU]; exact va_X.moved hW.alike (va_X.kept hX (yO_k hS b hbl)), Nat.lt_of_lt_of_le hbl hS.1⟩⟩
def LF (p : Program) (l : Launch) (s : State) (m : MethodId) (meth : Method) (c_ : Code) (b L : Nat) (xs : Nat → Int32) (G : va_G) (k : Nat → ClassId) (h : Nat) (a c : Nat → Nat) : Prop :=
  p.tables.exec = Jvm.exec ∧ c_.code = cL_law ∧ meth.sig.returnType = ret ∧ c_.maxLocals = 16 ∧ s.vm.findClass RL = some m.cls ∧ (∀ w ∈ wsL_law, w.before #[Value.ref b] s = true) ∧ va_X b L xs s s.heap ∧ b < s.heap.size ∧ L ≤ 260 ∧ va_K G vwCl (yT k) s ∧ yV s s.heap ∧ l.stackTraces = false ∧ meth.locks = false ∧ ∀ σ : SX, va_D (fun q : Nat => s.heap.size ≤ q) (WS k h a c σ)
/-- the loop's head, a step on -/
def KL (p : Program) (l : Launch) (e : Env) (s : State) (m : MethodId) (below : List Frame) (meth : Method) (c_ : Code) (b : Nat) (G : va_G) (k : Nat → ClassId) (h : Nat) (a c : Nat → Nat) (z9 j A B : Nat) : Prop :=
  ∀ (σ : SX) (H : Heap) (locs : List Loc) (cells slots : Nat) (ls : Array Slot), yJs σ → σ.2.2.2.2.2 ≤ 7 * (j + 1) → va_P G vwCl (WS k h a c σ) H → yO s H locs → cells + A ≤ 756716 → slots + B ≤ 6824554 → lv_has ls 16 [(0, .ref b), (1, .ref h), (2, .int (nI z9)), (3, .int (nI (j + 1)))] → W p l e room_1 s m #[Value.ref b] below meth c_ H locs cells slots (lw_Z below #[Value.ref b] s) (F0 m 21 ls [])
/-- behind a step's call -/
def KT (p : Program) (l : Launch) (e : Env) (s : State) (m : MethodId) (below : List Frame) (meth : Method) (c_ : Code) (b : Nat) (G : va_G) (k : Nat → ClassId) (h : Nat) (a c : Nat → Nat) (z9 : Nat) (isW : Int32) (bf : Int64) (j A B : Nat) : Prop :=
  ∀ (σ : SX) (its : Int32) (H : Heap) (locs : List Loc) (cells slots : Nat) (ls : Array Slot), yJs σ → σ.2.2.2.2.2 ≤ 7 * (j + 1) → (its < -1000 → ¬ isW = 0 → f_sum σ = bf) → va_P G vwCl (WS k h a c σ) H → yO s H locs → cells + A ≤ 756716 → slots + B ≤ 6824554 → lv_has ls 16 [(0, .ref b), (1, .ref h), (2, .int (nI z9)), (3, .int (nI j)), (9, .int isW), (10, .long bf), (12, .int its)] → W p l e room_1 s m #[Value.ref b] below meth c_ H locs cells slots (lw_Z below #[Value.ref b] s) (F0 m 723 ls [])
section
variable {σ : SX}
/-! what the last calls answer: each tells its exception and leaves the state -/
theorem x_open {x due : Int32} (h : ¬ (rg 1 9999 x ∧ rg 0 999 due)) : (o_open x due σ.1 σ.2.1 σ.2.2.1 σ.2.2.2.2.1 σ.2.2.2.2.2).1 = 1 := by
  unfold o_open
  by_cases h1 : rg 1 9999 x
  · rw [if_pos h1, if_neg (fun h9 => h ⟨h1, h9⟩)]
  · rw [if_neg h1]
theorem x_openf {x due : Int32} (h : ¬ (rg 1 9999 x ∧ rg 0 999 due)) : f_open x due σ = -1001 ∧ g_open x due σ = σ := ⟨(er_c (x_open h) (by decide) (by decide)).symm, k_open (by rw [x_open h]; decide)⟩
theorem x_pause1 {x dd : Int32} (h : ¬ inR x σ.2.1) : f_pause x dd σ = -1001 ∧ g_pause x dd σ = σ := by
  have e : (o_pause x dd σ.1 σ.2.1 σ.2.2.2.2.2).1 = 1 := by unfold o_pause; rw [if_neg h]
  exact ⟨(er_c e (by decide) (by decide)).symm, k_pause (by rw [e]; decide)⟩
theorem x_pause2 {x dd : Int32} (h : inR x σ.2.1) (h2 : ¬ rg 1 60 dd) : f_pause x dd σ = -1002 ∧ g_pause x dd σ = σ := by
  have e : (o_pause x dd σ.1 σ.2.1 σ.2.2.2.2.2).1 = 2 := by unfold o_pause; rw [if_pos h, if_neg h2]
  exact ⟨(er_c e (by decide) (by decide)).symm, k_pause (by rw [e]; decide)⟩
theorem x_post {q key kd x v dl : Int32} (h : ¬ okp q key kd x v dl) : f_post q key kd x v dl σ = -1001 ∧ g_post q key kd x v dl σ = σ := by
  have e : (o_post q key kd x v dl σ.2.1 σ.2.2.1 σ.2.2.2.2.1 σ.2.2.2.2.2).1 = 1 := by unfold o_post; rw [if_neg h]
  exact ⟨(er_c e (by decide) (by decide)).symm, k_post (by rw [e]; decide)⟩
theorem x_take {u q : Int32} (h : ¬ (rg 0 3 u ∧ rg 0 2 q)) : f_take u q σ = -1001 ∧ g_take u q σ = σ := by
  have e : (o_takeC u q σ.2.2.1 σ.2.2.2.2.1 σ.2.2.2.2.2).1 = 1 := by
    unfold o_takeC
    by_cases h1 : rg 0 3 u
    · rw [if_pos h1, if_neg (fun h9 => h ⟨h1, h9⟩)]
    · rw [if_neg h1]
  exact ⟨(er_c e (by decide) (by decide)).symm, k_take (by rw [e]; decide)⟩
theorem x_pass {dd : Int32} (h : ¬ rg 1 30 dd) : f_pass dd σ = -1001 ∧ g_pass dd σ = σ := by
  have e : (o_passC dd σ.1 σ.2.1 σ.2.2.1 σ.2.2.2.2.1 σ.2.2.2.2.2).1 = 1 := by unfold o_passC; rw [if_neg h]
  exact ⟨(er_c e (by decide) (by decide)).symm, k_pass (by rw [e]; decide)⟩
theorem x_fin {x : Int32} (h : ¬ inR x σ.2.2.2.2.1) : f_fin x σ = -1001 ∧ g_fin x σ = σ := by
  have e : (o_finishC x σ.1 σ.2.2.1 σ.2.2.2.1 σ.2.2.2.2.1).1 = 1 := by unfold o_finishC; rw [if_neg h]
  exact ⟨(er_c e (by decide) (by decide)).symm, k_fin (by rw [e]; decide)⟩
theorem x_hb {x : Int32} (h : ¬ inR x σ.2.2.2.2.1) : f_hb x σ = -1001 ∧ g_hb x σ = σ := by
  have e : (o_handBackC x σ.2.2.1 σ.2.2.2.2.1 σ.2.2.2.2.2).1 = 1 := by unfold o_handBackC; rw [if_neg h]
  exact ⟨(er_c e (by decide) (by decide)).symm, k_hb (by rw [e]; decide)⟩
theorem x_rev {x : Int32} (h : ¬ inR x σ.2.2.2.2.1) : f_rev x σ = -1001 ∧ g_rev x σ = σ := by
  have e : (o_revive x σ.2.2.1 σ.2.2.2.2.1 σ.2.2.2.2.2).1 = 1 := by unfold o_revive; rw [if_neg h]
  exact ⟨(er_c e (by decide) (by decide)).symm, k_rev (by rw [e]; decide)⟩
theorem x_await {x : Int32} (h : ¬ inR x σ.2.1) : f_await x σ = -1001 ∧ g_await x σ = σ := by
  have e : (o_awaitNote x σ.1 σ.2.1).1 = 1 := by unfold o_awaitNote; rw [if_neg h]
  exact ⟨(er_c e (by decide) (by decide)).symm, k_await (by rw [e]; decide)⟩
theorem key_in (h : yJs σ) {z : Nat} (hz : z < σ.2.2.2.2.1) : ∃ y : Nat, y < 2000 ∧ y ≠ 1003 ∧ σ.2.2.1 1 z = nI y := by
  rcases okq_k (J_q h hz) with ⟨_, y, hy, e⟩ | ⟨_, c, t, hc, ht, e, _⟩
  · exact ⟨y, by omega, by omega, e⟩
  · exact ⟨1000 + 10 * c + t, by omega, by omega, e⟩
theorem x_wk1 (h : yJs σ) : f_wk (-1) σ = -1001 := wk_n (fnd_no (fun z _ hz => by
  obtain ⟨y, hy, _, e⟩ := key_in h (z := z) (by omega)
  rw [e]; exact fun h9 => nI_pos (n := y) (by omega) (by rw [h9]; decide)))
theorem x_wk2 (h : yJs σ) : f_wk 1003 σ = -1001 := wk_n (fnd_no (fun z _ hz => by
  obtain ⟨y, hy, h3, e⟩ := key_in h (z := z) (by omega)
  rw [e, show (1003 : Int32) = nI 1003 from rfl]; exact fun h9 => h3 (nI_inj (by omega) (by decide) h9)))
theorem x_rdy {q : Int32} (h : ¬ rg 0 2 q) : f_rdy q σ = -1001 := by
  have e : (o_ready q σ.2.2.1 σ.2.2.2.2.1 σ.2.2.2.2.2).1 = 1 := by unfold o_ready; rw [if_neg h]
  exact (er_c e (by decide) (by decide)).symm
theorem x_rap1 {q pl : Int32} (h : ¬ rg 0 2 q) : f_rap q pl σ = -1001 := by
  have e : (o_rapC q pl σ.2.2.1 σ.2.2.2.2.1 σ.2.2.2.2.2).1 = 1 := by unfold o_rapC; rw [if_neg h]
  exact (er_c e (by decide) (by decide)).symm
theorem x_rap2 {q pl : Int32} (h : rg 0 2 q) (h2 : pl < 0) : f_rap q pl σ = -1002 := by
  have e : (o_rapC q pl σ.2.2.1 σ.2.2.2.2.1 σ.2.2.2.2.2).1 = 2 := by unfold o_rapC; rw [if_pos h, if_neg (fun h9 => h9.1 h2)]
  exact (er_c e (by decide) (by decide)).symm
theorem x_has {u : Int32} (h : ¬ rg 0 3 u) : f_has u σ = -1001 := by
  have e : (o_has u σ.2.2.1 σ.2.2.2.2.1).1 = 1 := by unfold o_has; rw [if_neg h]
  exact (er_c e (by decide) (by decide)).symm
theorem x_cnt {v : Int32} (h : ¬ oks v) : f_cnt v σ = -1001 := by
  have e : (o_count v σ.2.2.1 σ.2.2.2.2.1).1 = 1 := by unfold o_count; rw [if_neg h]
  exact (er_c e (by decide) (by decide)).symm
theorem pass_due2 (h : yJs σ) (hd : σ.2.2.2.2.2 + 1 ≤ 999) {x : Int32} (hn : ¬ f_of 3 x σ < 0) (he : f_of 3 x σ = nI σ.2.2.2.2.2 + 1) (hm : ¬ 70 ≤ nI σ.2.2.2.2.1) : 1 ≤ f_pass 1 σ := by
  have h0 := J_n0 h
  by_cases hx : inR x σ.2.1
  · obtain ⟨i, hi, rfl⟩ := inR_of (by omega) hx
    exact Int32.not_lt.mp (pass_due h hd hi hn he (Int32.not_le.mp hm))
  · rw [of_x (by decide) hx] at hn; exact absurd (by decide) hn
theorem pass_2 (h : yJs σ) {e : Nat} (h1 : 1 ≤ e) (h30 : e ≤ 30) (hd : σ.2.2.2.2.2 + e ≤ 999) : ¬ f_pass (nI e) σ < -1000 := by
  have e2 := pass_f h h1 h30 hd
  have k1 := (J_pass h h1 h30 hd).1
  have h3 := J_n1 k1
  have e4 := pds_c (C := σ.1) (n0 := σ.2.1) (r := e) (d := σ.2.2.2.2.2) (u := (0, σ.2.2.1, σ.2.2.2.2.1))
  have e5 : (g_pass (nI e) σ).2.2.2.2.1 = (pdsC σ.1 σ.2.1 e σ.2.2.2.2.2 (0, σ.2.2.1, σ.2.2.2.2.1)).2.2 := by
    show (o_passC (nI e) σ.1 σ.2.1 σ.2.2.1 σ.2.2.2.2.1 σ.2.2.2.2.2).2.1.2.2 = _
    rw [pass_v h h1 h30 hd]
  have e6 : (pdsC σ.1 σ.2.1 e σ.2.2.2.2.2 (0, σ.2.2.1, σ.2.2.2.2.1)).2.2 + 0 = σ.2.2.2.2.1 + (pdsC σ.1 σ.2.1 e σ.2.2.2.2.2 (0, σ.2.2.1, σ.2.2.2.2.1)).1 := e4
  rw [e2]
  exact fun h9 => absurd (Int32.lt_of_le_of_lt (nI_ge0 (a := (pdsC σ.1 σ.2.1 e σ.2.2.2.2.2 (0, σ.2.2.1, σ.2.2.2.2.1)).1) (by omega)) h9) (by decide)
end
