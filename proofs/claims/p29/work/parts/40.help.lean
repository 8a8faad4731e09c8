/-! the law's helpers: what they take as given, the class's state as one value, rows for calls that change nothing old -/
def yNCs : List (String × String) := [("java/lang/ArithmeticException", "java/lang/IllegalArgumentException"), ("java/lang/ArithmeticException", "java/lang/IllegalStateException"), ("java/lang/ArithmeticException", "java/lang/IndexOutOfBoundsException"), ("java/lang/ArithmeticException", "java/util/NoSuchElementException"), ("java/lang/IllegalArgumentException", "java/lang/ArithmeticException"), ("java/lang/IllegalArgumentException", "java/lang/IllegalStateException"), ("java/lang/IllegalArgumentException", "java/lang/IndexOutOfBoundsException"), ("java/lang/IllegalArgumentException", "java/util/NoSuchElementException"), ("java/lang/IllegalStateException", "java/lang/ArithmeticException"), ("java/lang/IllegalStateException", "java/lang/IllegalArgumentException"), ("java/lang/IllegalStateException", "java/lang/IndexOutOfBoundsException"), ("java/lang/IllegalStateException", "java/util/NoSuchElementException"), ("java/lang/IndexOutOfBoundsException", "java/lang/ArithmeticException"), ("java/lang/IndexOutOfBoundsException", "java/lang/IllegalArgumentException"), ("java/lang/IndexOutOfBoundsException", "java/lang/IllegalStateException"), ("java/lang/IndexOutOfBoundsException", "java/util/NoSuchElementException"), ("java/util/NoSuchElementException", "java/lang/ArithmeticException"), ("java/util/NoSuchElementException", "java/lang/IllegalArgumentException"), ("java/util/NoSuchElementException", "java/lang/IllegalStateException"), ("java/util/NoSuchElementException", "java/lang/IndexOutOfBoundsException")]
def yNC (U : State) : Prop := ∀ q ∈ yNCs, va_Nc q.1 q.2 U
/-- the law's two texts, and what String.charAt reads beside them -/
def ySQ (adK adV : Nat → Nat) (s : State) (H : Heap) : Prop := vk_S 2 [5, 2] [[104, 119, 116, 100, 120], [112, 110]] adK adV (fun _ => False) s H ∧ va_Z "java/lang/String" "COMPACT_STRINGS" "Z" (.int 1) (fun _ => False) s H ∧ va_Zq "jdk/internal/util/Preconditions" "SIOOBE_FORMATTER" "Ljava/util/function/BiFunction;" (fun _ => False) s H
theorem ySQ.moved {adK adV : Nat → Nat} {u U : State} {H : Heap} (hvm : u.vm.Alike U.vm) (h : ySQ adK adV u H) : ySQ adK adV U H := ⟨vk_S.moved hvm h.1, va_Z.moved hvm h.2.1, va_Zq.moved hvm h.2.2⟩
theorem ySQ.kept {adK adV : Nat → Nat} {s : State} {H H1 : Heap} (h : ySQ adK adV s H) (hk : ∀ q : Nat, q < H.size → H1[q]? = H[q]?) : ySQ adK adV s H1 := ⟨vk_S.kept h.1 (fun q hq _ => hk q hq), va_Z.kept h.2.1 (fun q hq _ => hk q hq), va_Zq.kept h.2.2 (fun q hq _ => hk q hq)⟩
def ySS (s : State) (H : Heap) : Prop := ∃ adK adV : Nat → Nat, ySQ adK adV s H ∧ vk_R RL 111 "hwtdx" (adK 0) s ∧ vk_R RL 177 "pn" (adK 1) s
def yV (s : State) (H : Heap) : Prop := yEV0 s H ∧ yNC s ∧ ySS s H
theorem yV_at {s : State} {H : Heap} (h : yV s H) {U : State} (hU : U.heap = H) (hW : s.WarmedH U.vm) : yV U U.heap := by
  obtain ⟨h1, h2, adK, adV, h3, h4, h5⟩ := h
  exact ⟨yEV_at h1 hU hW, fun z hz => va_Nc.moved hW.alike (h2 z hz), adK, adV, by rw [hU]; exact h3.moved hW.alike, vk_R.warm hW h4, vk_R.warm hW h5⟩
theorem yV_blind {a : Array Value} {U : State} {g : JFrame} {mk : MethodId} (h : yV U U.heap) : yV (U.calling g mk a) (U.calling g mk a).heap := by
  obtain ⟨h1, h2, adK, adV, h3, h4, h5⟩ := h
  exact ⟨yEV_blind h1, fun z hz => va_Nc.moved (u := U) (U := U.calling g mk a) (Vm.Alike.refl U.vm) (h2 z hz), adK, adV, ySQ.moved (u := U) (U := U.calling g mk a) (Vm.Alike.refl U.vm) h3, vk_R.same (u := U) (U := U.calling g mk a) rfl h4, vk_R.same (u := U) (U := U.calling g mk a) rfl h5⟩
theorem yV_kept {s : State} {H H1 : Heap} (h : yV s H) (hk : ∀ q : Nat, q < H.size → H1[q]? = H[q]?) : yV s H1 := by
  obtain ⟨⟨a1, a2, a3, a4⟩, h2, adK, adV, h3, h4, h5⟩ := h
  exact ⟨⟨a1, a2, vx_Zq.kept a3 (fun q hq _ => hk q hq), vx_Zq.kept a4 (fun q hq _ => hk q hq)⟩, h2, adK, adV, h3.kept hk, h4, h5⟩
def yL (G : va_G) (tys : List (ClassId × FieldType)) (w : va_W) (sz : Nat) : State → Prop := fun U => U.heap.size = sz ∧ va_P G vwCl w U.heap ∧ va_K G vwCl tys U ∧ yV U U.heap
theorem yL_blind {av : List Value} {G : va_G} {tys : List (ClassId × FieldType)} {w : va_W} {sz : Nat} : FrameBlind (va_Pc av (yL G tys w sz)) := fun a U g mk q => ⟨q.1, q.2.1, q.2.2.1, va_K.moved (u := U) (U := U.calling g mk a) (Vm.Alike.refl U.vm) q.2.2.2.1, yV_blind q.2.2.2.2⟩
theorem yKeep {G : va_G} {w : va_W} {H H1 : Heap} (hP : va_P G vwCl w H) (hk : ∀ q : Nat, q < H.size → H1[q]? = H[q]?) : va_P G vwCl w H1 := fun k q hq => (hP k q hq).kept (hk _ (hP k q hq).lt)
/-- since the entry nothing old has changed -/
abbrev yO (s : State) (H : Heap) (locs : List Loc) : Prop := va_S (fun q : Nat => s.heap.size ≤ q) s.heap H locs
theorem yO_k {s : State} {H : Heap} {locs : List Loc} (hS : yO s H locs) : ∀ q : Nat, q < s.heap.size → H[q]? = s.heap[q]? := fun q hq => hS.2.1 q hq (Nat.not_le.mpr hq)
theorem yO_rf {s : State} : yO s s.heap [] := va_S.rf
abbrev SX : Type := (Nat → Nat → Int32) × Nat × (Nat → Nat → Int32) × Nat × Nat × Nat
abbrev WS (k : Nat → ClassId) (h : Nat) (a c : Nat → Nat) (σ : SX) : va_W := W2 k h a c σ.1 σ.2.1 σ.2.2.1 σ.2.2.2.1 σ.2.2.2.2.1 σ.2.2.2.2.2
def er (e a : Int32) : Int32 := if e = 0 then a else -1000 - e
theorem er_0 {e a : Int32} (h : e = 0) : er e a = a := if_pos h
theorem er_c {e a c v : Int32} (h : e = c) (h0 : c ≠ 0) (hv : -1000 - c = v) : v = er e a := by
  unfold er; rw [if_neg (by rw [h]; exact h0), h, hv]
section
variable {p : Program} {l : Launch} {e : Env} {R : Room} {s : State} {m : MethodId} {args : Array Value} {below : List Frame} {meth : Method} {c : Code} {H : Heap} {locs : List Loc} {cells slots mc ms : Nat} {Q : State → Prop} {free : Addr → Prop} {A0 A1 : Nat → Prop} {H0 : Heap} {a : Array Value} {pc : Nat} {ls : Array Slot} {st0 rest : List Value} {px : String → Prop} {G : va_G} {w w' : va_W} {tys : List (ClassId × FieldType)} {As : List Value}
theorem yL_pre (hS : yO s H locs) (hE : yV s s.heap) (hP : va_P G vwCl w H) (hK : va_K G vwCl tys s) : PreS s H (va_Pc As (yL G tys w H.size)) As := ⟨yL_blind, fun U hU hW => ⟨rfl, by rw [hU], by rw [hU]; exact hP, va_K.moved hW.alike hK, yV_at (yV_kept hE (yO_k hS)) hU hW⟩⟩
abbrev yKx (p : Program) (l : Launch) (e : Env) (R : Room) (s : State) (m : MethodId) (args : Array Value) (below : List Frame) (meth : Method) (c : Code) (H : Heap) (A0 : Nat → Prop) (H0 : Heap) (cells slots mc ms : Nat) (Q : State → Prop) (pc : Nat) (ls : Array Slot) (rest : List Value) (px : String → Prop) : Prop :=
  ∀ (E : String) (ce : Cell) (q9 : Addr) (H1 : Heap) (locs1 : List Loc), px E → (∀ q : Nat, q < H.size → H1[q]? = H[q]?) → va_S A0 H0 H1 locs1 → H1[q9]? = some ce → ce.vm = .none → s.vm.findClass E = some ce.cls → vx_W p l e R s m args below meth c H1 locs1 (cells + mc) (slots + ms) Q (F0 m pc ls rest) q9
theorem y_hcall {S : Type} {post : Int32 → S → Prop} {B : S → State → Prop} (hr : vx_Run p l e R s m args below meth c H locs cells slots mc ms (F0 m pc ls st0) rest (va_Qi post B A1 a) (yX px) free) (hS : va_S A0 H0 H locs) (hA : ∀ q, q < H.size → A1 q → A0 q) (hf : ∀ q, free q → A0 q)
    (kx : yKx p l e R s m args below meth c H A0 H0 cells slots mc ms Q pc ls rest px)
    (kk : ∀ (r : Int32) (u : S) (t : State) (H1 : Heap) (locs1 : List Loc), t.heap = H1 → post r u → B u t → H.size ≤ H1.size → (∀ q : Nat, q < H.size → ¬ A1 q → H1[q]? = H[q]?) → va_S A0 H0 H1 locs1 → W p l e R s m args below meth c H1 locs1 (cells + mc) (slots + ms) Q (F0 m (pc + 3) ls (.int r :: rest))) : W p l e R s m args below meth c H locs cells slots Q (F0 m pc ls st0) := by
  intro T hT X
  rcases hr T hT X with ⟨v, st₀, t, T', L, h0, X', hL, e1, e2, ⟨⟨r, u, hv, hp, hb⟩, hF⟩, st⟩ | ⟨q, st₀, t, T', L, E, ce, h0, X', hL, e1, e2, ⟨hp, hF⟩, hce, hcv, hcl, st⟩
  · cases hv
    obtain ⟨k1, k2, k3⟩ := vx_keep h0 e1 hS hA hf hL hF
    obtain ⟨t2, a1, b1⟩ := kk r u t T'.heap (locs ++ L) e1.symm hp hb k1 k2 k3 T' rfl X'
    exact ⟨t2, st t2 a1, b1⟩
  · obtain ⟨k1, k2, k3⟩ := vx_keep h0 e1 hS (A1 := fun _ => False) (fun q _ h => h.elim) hf hL hF
    obtain ⟨t2, a1, b1⟩ := kx E ce q T'.heap (locs ++ L) hp (fun q9 h9 => k2 q9 h9 (fun z => z)) k3 (by rw [e1]; exact hce) hcv hcl T' rfl X'
    exact ⟨t2, st.trans a1, b1⟩
theorem y_hread {V : Type} {mk : V → Value} {post : V → Prop} {Qa : State → Outcome → State → Prop} (hQ : ∀ (st : State) (o : Outcome) (t : State), Qa st o t → ∃ r : V, o = .returned (some (mk r)) ∧ post r ∧ t.heap = st.heap) (hr : vx_Run p l e R s m args below meth c H locs cells slots mc ms (F0 m pc ls st0) rest Qa (yX px) (fun _ => False)) (hS : va_S A0 H0 H locs)
    (kx : yKx p l e R s m args below meth c H A0 H0 cells slots mc ms Q pc ls rest px)
    (kk : ∀ r : V, post r → W p l e R s m args below meth c H locs (cells + mc) (slots + ms) Q (F0 m (pc + 3) ls (mk r :: rest))) : W p l e R s m args below meth c H locs cells slots Q (F0 m pc ls st0) := by
  intro T hT X
  rcases hr T hT X with ⟨v, st₀, t, T', L, h0, X', hL, e1, e2, hq, st⟩ | ⟨q, st₀, t, T', L, E, ce, h0, X', hL, e1, e2, ⟨hp, hF⟩, hce, hcv, hcl, st⟩
  · obtain ⟨r, hv, hp, hh⟩ := hQ _ _ _ hq
    cases hv
    obtain ⟨t2, a1, b1⟩ := kk r hp T' (by rw [e1, hh, h0]) (Stand.forget X' (fun q h => (hL q h).elim))
    exact ⟨t2, st t2 a1, b1⟩
  · obtain ⟨k1, k2, k3⟩ := vx_keep h0 e1 hS (A1 := fun _ => False) (fun q _ h => h.elim) (free := fun _ => False) (fun q h => h.elim) hL hF
    obtain ⟨t2, a1, b1⟩ := kx E ce q T'.heap (locs ++ L) hp (fun q9 h9 => k2 q9 h9 (fun z => z)) k3 (by rw [e1]; exact hce) hcv hcl T' rfl X'
    exact ⟨t2, st.trans a1, b1⟩
theorem y_callSv {post : Unit → Prop} (hr : va_Run p l e R s m args below meth c H locs cells slots 0 0 (F0 m pc ls st0) rest (va_Sv post a) (fun _ => False)) (kk : W p l e R s m args below meth c H locs cells slots Q (F0 m (pc + 3) ls rest)) : W p l e R s m args below meth c H locs cells slots Q (F0 m pc ls st0) := by
  intro T hT X
  obtain ⟨v, st₀, t, T', L, h0, X', hL, e1, e2, ⟨hv, hp, hh⟩, st⟩ := hr T hT X
  cases hv
  obtain ⟨t2, a1, b1⟩ := kk T' (by rw [e1, hh, h0]) (Stand.forget X' (fun q h => (hL q h).elim))
  exact ⟨t2, st t2 a1, b1⟩
/-- calls that change nothing old: of an int, a long, a float -/
theorem y_lro {post : Int32 → Unit → Prop} {B : Unit → State → Prop} (hr : va_Run p l e R s m args below meth c H locs cells slots mc ms (F0 m pc ls st0) rest (va_Qi post B (fun q : Nat => H.size ≤ q) a) (fun q : Nat => H.size ≤ q)) (hS : yO s H locs)
    (kk : ∀ (r : Int32) (H1 : Heap) (locs1 : List Loc), post r () → (∀ q : Nat, q < H.size → H1[q]? = H[q]?) → yO s H1 locs1 → W p l e R s m args below meth c H1 locs1 (cells + mc) (slots + ms) Q (F0 m (pc + 3) ls (.int r :: rest))) : W p l e R s m args below meth c H locs cells slots Q (F0 m pc ls st0) :=
  va_calli hr hS (fun q h1 h2 => absurd h1 (Nat.not_lt.mpr h2)) (fun q h => Nat.le_trans hS.1 h) (fun r u t H1 locs1 ht hvm hp hB hz hk hS1 => kk r H1 locs1 hp (fun q hq => hk q hq (Nat.not_le.mpr hq)) hS1)
theorem y_lroL {post : Int64 → Unit → Prop} {B : Unit → State → Prop} (hr : va_Run p l e R s m args below meth c H locs cells slots mc ms (F0 m pc ls st0) rest (va_Ql post B (fun q : Nat => H.size ≤ q) a) (fun q : Nat => H.size ≤ q)) (hS : yO s H locs)
    (kk : ∀ (r : Int64) (H1 : Heap) (locs1 : List Loc), post r () → (∀ q : Nat, q < H.size → H1[q]? = H[q]?) → yO s H1 locs1 → W p l e R s m args below meth c H1 locs1 (cells + mc) (slots + ms) Q (F0 m (pc + 3) ls (.long r :: rest))) : W p l e R s m args below meth c H locs cells slots Q (F0 m pc ls st0) :=
  va_calll hr hS (fun q h1 h2 => absurd h1 (Nat.not_lt.mpr h2)) (fun q h => Nat.le_trans hS.1 h) (fun r u t H1 locs1 ht hvm hp hB hz hk hS1 => kk r H1 locs1 hp (fun q hq => hk q hq (Nat.not_le.mpr hq)) hS1)
theorem y_lroF {post : UInt32 → Unit → Prop} {B : Unit → State → Prop} (hr : va_Run p l e R s m args below meth c H locs cells slots mc ms (F0 m pc ls st0) rest (va_Qf post B (fun q : Nat => H.size ≤ q) a) (fun q : Nat => H.size ≤ q)) (hS : yO s H locs)
    (kk : ∀ (r : UInt32) (H1 : Heap) (locs1 : List Loc), post r () → (∀ q : Nat, q < H.size → H1[q]? = H[q]?) → yO s H1 locs1 → W p l e R s m args below meth c H1 locs1 (cells + mc) (slots + ms) Q (F0 m (pc + 3) ls (.float r :: rest))) : W p l e R s m args below meth c H locs cells slots Q (F0 m pc ls st0) :=
  va_callf hr hS (fun q h1 h2 => absurd h1 (Nat.not_lt.mpr h2)) (fun q h => Nat.le_trans hS.1 h) (fun r u t H1 locs1 ht hvm hp hB hz hk hS1 => kk r H1 locs1 hp (fun q hq => hk q hq (Nat.not_le.mpr hq)) hS1)
/-- calls that change the world w alone, all of it made since the entry -/
theorem y_lrw {post : Int32 → Unit → Prop} (hr : va_Run p l e R s m args below meth c H locs cells slots mc ms (F0 m pc ls st0) rest (va_Qi post (fun _ τ => va_P G vwCl w' τ.heap) (va_A w H.size) a) (va_A w H.size)) (hD : va_D (fun q : Nat => s.heap.size ≤ q) w) (hS : yO s H locs)
    (kk : ∀ (r : Int32) (H1 : Heap) (locs1 : List Loc), post r () → va_P G vwCl w' H1 → yO s H1 locs1 → W p l e R s m args below meth c H1 locs1 (cells + mc) (slots + ms) Q (F0 m (pc + 3) ls (.int r :: rest))) : W p l e R s m args below meth c H locs cells slots Q (F0 m pc ls st0) := by
  have hA1 : ∀ q : Nat, va_A w H.size q → s.heap.size ≤ q := fun q h => by
    rcases h with ⟨k, e, hk⟩ | h
    · exact hD.2 k _ hk
    · exact Nat.le_trans hS.1 h
  refine va_calli hr hS (fun q _ h => hA1 q h) hA1 (fun r u t H1 locs1 ht hvm hp hB hz hk hS1 => ?_)
  rw [ht] at hB
  exact kk r H1 locs1 hp hB hS1
/-- a loop whose turns make cells -/
theorem y_loopC {σ : Type} (I : Nat → σ → Nat → Nat → Heap → List Loc → Array Slot → Prop)
    (hs : ∀ (r : Nat) (x : σ) (cells slots : Nat) (H : Heap) (locs : List Loc) (ls : Array Slot), I r x cells slots H locs ls → (∀ (r' : Nat) (x' : σ) (cells' slots' : Nat) (H' : Heap) (locs' : List Loc) (ls' : Array Slot), r' < r → I r' x' cells' slots' H' locs' ls' → W p l e R s m args below meth c H' locs' cells' slots' Q (F0 m pc ls' [])) → W p l e R s m args below meth c H locs cells slots Q (F0 m pc ls [])) :
    ∀ (r : Nat) (x : σ) (cells slots : Nat) (H : Heap) (locs : List Loc) (ls : Array Slot), I r x cells slots H locs ls → W p l e R s m args below meth c H locs cells slots Q (F0 m pc ls []) := by
  intro r
  induction r using Nat.strongRecOn with
  | _ r ih => exact fun x cells slots H locs ls h => hs r x cells slots H locs ls h (fun r' x' cells' slots' H' locs' ls' hr h' => ih r' hr x' cells' slots' H' locs' ls' h')
end
theorem yQi {post : Int32 → Prop} {a : Array Value} : ∀ (st : State) (o : Outcome) (t : State), vp_Si post a st o t → ∃ r : Int32, o = .returned (some (Value.int r)) ∧ post r ∧ t.heap = st.heap := fun _ _ _ h => h
theorem yQf {post : UInt32 → Prop} {a : Array Value} : ∀ (st : State) (o : Outcome) (t : State), vp_Sf post a st o t → ∃ r : UInt32, o = .returned (some (Value.float r)) ∧ post r ∧ t.heap = st.heap := fun _ _ _ h => h
section
variable {G : va_G} {x : Nat × va_E} {w w' : va_W} {H H1 : Heap} {A : Nat → Prop}
theorem yP_tl (hP : va_P G vwCl (x :: w) H) : va_P G vwCl w H := fun k q hk => hP (k + 1) q hk
theorem yD_tl (hD : va_D A (x :: w)) : va_D A w := ⟨fun i j p q hp hq h => by have := hD.1 (i + 1) (j + 1) p q hp hq h; omega, fun k q hk => hD.2 (k + 1) q hk⟩
end
/-! where an exception is told, nothing has changed -/
theorem o_open_k {x due : Int32} {C : Nat → Nat → Int32} {n0 : Nat} {M : Nat → Nat → Int32} {n1 d : Nat} : ¬ (o_open x due C n0 M n1 d).1 = 0 → (o_open x due C n0 M n1 d).2.2 = (C, M, n0) := by
  unfold o_open; repeat' split
  all_goals first | (intro h; rfl) | (intro h; exact absurd rfl h)
theorem o_pause_k {x dd : Int32} {C : Nat → Nat → Int32} {n0 d : Nat} : ¬ (o_pause x dd C n0 d).1 = 0 → (o_pause x dd C n0 d).2.2 = C := by
  unfold o_pause; repeat' split
  all_goals first | (intro h; rfl) | (intro h; exact absurd rfl h)
theorem o_awaitNote_k {x : Int32} {C : Nat → Nat → Int32} {n0 : Nat} : ¬ (o_awaitNote x C n0).1 = 0 → (o_awaitNote x C n0).2.2 = C := by
  unfold o_awaitNote; repeat' split
  all_goals first | (intro h; rfl) | (intro h; exact absurd rfl h)
theorem o_post_k {q key kd x v dl : Int32} {n0 : Nat} {M : Nat → Nat → Int32} {n1 d : Nat} : ¬ (o_post q key kd x v dl n0 M n1 d).1 = 0 → (o_post q key kd x v dl n0 M n1 d).2.2 = (M, n1) := by
  unfold o_post; repeat' split
  all_goals first | (intro h; rfl) | (intro h; exact absurd rfl h)
theorem tk3_k {M : Nat → Nat → Int32} {u : Int32} {d : Nat} {o : Option Nat} (h : ¬ (tk3 M u d o).1 = 0) : (tk3 M u d o).2.2 = M := by
  cases o with
  | none => rfl
  | some j => exact absurd rfl h
theorem o_takeC_k {u q : Int32} {M : Nat → Nat → Int32} {n1 d : Nat} (h : ¬ (o_takeC u q M n1 d).1 = 0) : (o_takeC u q M n1 d).2.2 = M := by
  unfold o_takeC at h ⊢
  by_cases h1 : rg 0 3 u
  · rw [if_pos h1] at h ⊢
    by_cases h2 : rg 0 2 q
    · rw [if_pos h2] at h ⊢
      by_cases h3 : 2 ≤ cnt (fun z => decide (tkn M u z)) n1 0 0
      · rw [if_pos h3]
      · rw [if_neg h3] at h ⊢; exact tk3_k h
    · rw [if_neg h2]
  · rw [if_neg h1]
theorem o_finishC_k {x : Int32} {C M : Nat → Nat → Int32} {ds n1 : Nat} : ¬ (o_finishC x C M ds n1).1 = 0 → (o_finishC x C M ds n1).2.2 = (C, M, ds) := by
  unfold o_finishC; repeat' split
  all_goals first | (intro h; rfl) | (intro h; exact absurd rfl h)
theorem o_handBackC_k {x : Int32} {M : Nat → Nat → Int32} {n1 d : Nat} : ¬ (o_handBackC x M n1 d).1 = 0 → (o_handBackC x M n1 d).2.2 = M := by
  unfold o_handBackC; repeat' split
  all_goals first | (intro h; rfl) | (intro h; exact absurd rfl h)
theorem o_revive_k {x : Int32} {M : Nat → Nat → Int32} {n1 d : Nat} : ¬ (o_revive x M n1 d).1 = 0 → (o_revive x M n1 d).2.2 = M := by
  unfold o_revive; repeat' split
  all_goals first | (intro h; rfl) | (intro h; exact absurd rfl h)
theorem o_passC_k {dd : Int32} {C : Nat → Nat → Int32} {n0 : Nat} {M : Nat → Nat → Int32} {n1 d : Nat} : ¬ (o_passC dd C n0 M n1 d).1 = 0 → (o_passC dd C n0 M n1 d).2 = ((0, M, n1), d) := by
  unfold o_passC; repeat' split
  all_goals first | (intro h; rfl) | (intro h; exact absurd rfl h)
/-! what the law's helpers answer, and what they leave, as functions of the class's state -/
def f_of : Nat → Int32 → SX → Int32
  | 0, x, σ => er (o_amount x σ.1 σ.2.1).1 (o_amount x σ.1 σ.2.1).2
  | 1, x, σ => er (o_letters x σ.1 σ.2.1).1 (o_letters x σ.1 σ.2.1).2
  | 2, x, σ => er (o_lbm x σ.1 σ.2.1 σ.2.2.1 σ.2.2.2.1 σ.2.2.2.2.1).1 (o_lbm x σ.1 σ.2.1 σ.2.2.1 σ.2.2.2.1 σ.2.2.2.2.1).2
  | _, x, σ => er (o_nextReminder x σ.1 σ.2.1 σ.2.2.1 σ.2.2.2.2.1 σ.2.2.2.2.2).1 (o_nextReminder x σ.1 σ.2.1 σ.2.2.1 σ.2.2.2.2.1 σ.2.2.2.2.2).2
def f_msg : Nat → Int32 → SX → Int32
  | 0, x, σ => er (o_row 5 32 x σ.2.2.1 σ.2.2.2.2.1).1 (o_row 5 32 x σ.2.2.1 σ.2.2.2.2.1).2
  | 1, x, σ => er (o_row 2 32 x σ.2.2.1 σ.2.2.2.2.1).1 (o_row 2 32 x σ.2.2.1 σ.2.2.2.2.1).2
  | 2, x, σ => er (o_row 7 0 x σ.2.2.1 σ.2.2.2.2.1).1 (o_row 7 0 x σ.2.2.1 σ.2.2.2.2.1).2
  | 3, x, σ => er (o_rowIf 6 119 x σ.2.2.1 σ.2.2.2.2.1).1 (o_rowIf 6 119 x σ.2.2.1 σ.2.2.2.2.1).2
  | _, x, σ => er (o_rowIf 8 116 x σ.2.2.1 σ.2.2.2.2.1).1 (o_rowIf 8 116 x σ.2.2.1 σ.2.2.2.2.1).2
def f_wk (x : Int32) (σ : SX) : Int32 := er (o_withKey x σ.2.2.1 σ.2.2.2.2.1).1 (o_withKey x σ.2.2.1 σ.2.2.2.2.1).2
def f_rdy (q : Int32) (σ : SX) : Int32 := er (o_ready q σ.2.2.1 σ.2.2.2.2.1 σ.2.2.2.2.2).1 (o_ready q σ.2.2.1 σ.2.2.2.2.1 σ.2.2.2.2.2).2
def f_rap (q pl : Int32) (σ : SX) : Int32 := er (o_rapC q pl σ.2.2.1 σ.2.2.2.2.1 σ.2.2.2.2.2).1 (o_rapC q pl σ.2.2.1 σ.2.2.2.2.1 σ.2.2.2.2.2).2
def f_has (u : Int32) (σ : SX) : Int32 := er (o_has u σ.2.2.1 σ.2.2.2.2.1).1 (o_has u σ.2.2.1 σ.2.2.2.2.1).2
def f_cnt (v : Int32) (σ : SX) : Int32 := er (o_count v σ.2.2.1 σ.2.2.2.2.1).1 (o_count v σ.2.2.1 σ.2.2.2.2.1).2
def f_share (σ : SX) : UInt32 := if (o_share σ.2.2.1 σ.2.2.2.2.1).1 = 0 then (o_share σ.2.2.1 σ.2.2.2.2.1).2 else 3212836864
def f_open (x due : Int32) (σ : SX) : Int32 := er (o_open x due σ.1 σ.2.1 σ.2.2.1 σ.2.2.2.2.1 σ.2.2.2.2.2).1 (o_open x due σ.1 σ.2.1 σ.2.2.1 σ.2.2.2.2.1 σ.2.2.2.2.2).2.1
def g_open (x due : Int32) (σ : SX) : SX := ((o_open x due σ.1 σ.2.1 σ.2.2.1 σ.2.2.2.2.1 σ.2.2.2.2.2).2.2.1, (o_open x due σ.1 σ.2.1 σ.2.2.1 σ.2.2.2.2.1 σ.2.2.2.2.2).2.2.2.2, (o_open x due σ.1 σ.2.1 σ.2.2.1 σ.2.2.2.2.1 σ.2.2.2.2.2).2.2.2.1, σ.2.2.2.1, σ.2.2.2.2.1, σ.2.2.2.2.2)
def f_pause (x dd : Int32) (σ : SX) : Int32 := er (o_pause x dd σ.1 σ.2.1 σ.2.2.2.2.2).1 (o_pause x dd σ.1 σ.2.1 σ.2.2.2.2.2).2.1
def g_pause (x dd : Int32) (σ : SX) : SX := ((o_pause x dd σ.1 σ.2.1 σ.2.2.2.2.2).2.2, σ.2.1, σ.2.2.1, σ.2.2.2.1, σ.2.2.2.2.1, σ.2.2.2.2.2)
def f_await (x : Int32) (σ : SX) : Int32 := er (o_awaitNote x σ.1 σ.2.1).1 (if (o_awaitNote x σ.1 σ.2.1).2.1 = 0 then 0 else 1)
def g_await (x : Int32) (σ : SX) : SX := ((o_awaitNote x σ.1 σ.2.1).2.2, σ.2.1, σ.2.2.1, σ.2.2.2.1, σ.2.2.2.2.1, σ.2.2.2.2.2)
def f_post (q key kd x v dl : Int32) (σ : SX) : Int32 := er (o_post q key kd x v dl σ.2.1 σ.2.2.1 σ.2.2.2.2.1 σ.2.2.2.2.2).1 (o_post q key kd x v dl σ.2.1 σ.2.2.1 σ.2.2.2.2.1 σ.2.2.2.2.2).2.1
def g_post (q key kd x v dl : Int32) (σ : SX) : SX := (σ.1, σ.2.1, (o_post q key kd x v dl σ.2.1 σ.2.2.1 σ.2.2.2.2.1 σ.2.2.2.2.2).2.2.1, σ.2.2.2.1, (o_post q key kd x v dl σ.2.1 σ.2.2.1 σ.2.2.2.2.1 σ.2.2.2.2.2).2.2.2, σ.2.2.2.2.2)
def f_take (u q : Int32) (σ : SX) : Int32 := er (o_takeC u q σ.2.2.1 σ.2.2.2.2.1 σ.2.2.2.2.2).1 (o_takeC u q σ.2.2.1 σ.2.2.2.2.1 σ.2.2.2.2.2).2.1
def g_take (u q : Int32) (σ : SX) : SX := (σ.1, σ.2.1, (o_takeC u q σ.2.2.1 σ.2.2.2.2.1 σ.2.2.2.2.2).2.2, σ.2.2.2.1, σ.2.2.2.2.1, σ.2.2.2.2.2)
def f_fin (x : Int32) (σ : SX) : Int32 := er (o_finishC x σ.1 σ.2.2.1 σ.2.2.2.1 σ.2.2.2.2.1).1 (if (o_finishC x σ.1 σ.2.2.1 σ.2.2.2.1 σ.2.2.2.2.1).2.1 = 0 then 0 else 1)
def g_fin (x : Int32) (σ : SX) : SX := ((o_finishC x σ.1 σ.2.2.1 σ.2.2.2.1 σ.2.2.2.2.1).2.2.1, σ.2.1, (o_finishC x σ.1 σ.2.2.1 σ.2.2.2.1 σ.2.2.2.2.1).2.2.2.1, (o_finishC x σ.1 σ.2.2.1 σ.2.2.2.1 σ.2.2.2.2.1).2.2.2.2, σ.2.2.2.2.1, σ.2.2.2.2.2)
def f_hb (x : Int32) (σ : SX) : Int32 := er (o_handBackC x σ.2.2.1 σ.2.2.2.2.1 σ.2.2.2.2.2).1 (o_handBackC x σ.2.2.1 σ.2.2.2.2.1 σ.2.2.2.2.2).2.1
def g_hb (x : Int32) (σ : SX) : SX := (σ.1, σ.2.1, (o_handBackC x σ.2.2.1 σ.2.2.2.2.1 σ.2.2.2.2.2).2.2, σ.2.2.2.1, σ.2.2.2.2.1, σ.2.2.2.2.2)
def f_rev (x : Int32) (σ : SX) : Int32 := er (o_revive x σ.2.2.1 σ.2.2.2.2.1 σ.2.2.2.2.2).1 (o_revive x σ.2.2.1 σ.2.2.2.2.1 σ.2.2.2.2.2).2.1
def g_rev (x : Int32) (σ : SX) : SX := (σ.1, σ.2.1, (o_revive x σ.2.2.1 σ.2.2.2.2.1 σ.2.2.2.2.2).2.2, σ.2.2.2.1, σ.2.2.2.2.1, σ.2.2.2.2.2)
def f_pass (dd : Int32) (σ : SX) : Int32 := er (o_passC dd σ.1 σ.2.1 σ.2.2.1 σ.2.2.2.2.1 σ.2.2.2.2.2).1 (nI (o_passC dd σ.1 σ.2.1 σ.2.2.1 σ.2.2.2.2.1 σ.2.2.2.2.2).2.1.1)
def g_pass (dd : Int32) (σ : SX) : SX := (σ.1, σ.2.1, (o_passC dd σ.1 σ.2.1 σ.2.2.1 σ.2.2.2.2.1 σ.2.2.2.2.2).2.1.2.1, σ.2.2.2.1, (o_passC dd σ.1 σ.2.1 σ.2.2.1 σ.2.2.2.2.1 σ.2.2.2.2.2).2.1.2.2, (o_passC dd σ.1 σ.2.1 σ.2.2.1 σ.2.2.2.2.1 σ.2.2.2.2.2).2.2)
/-- the class's own rows, of the state as one value -/
def yIs (σ : SX) : Prop := yI σ.1 σ.2.1 σ.2.2.1 σ.2.2.2.1 σ.2.2.2.2.1 σ.2.2.2.2.2
section
variable {σ : SX}
theorem yJ_C (h : yIs σ) : ∀ z, z < σ.2.1 → 0 ≤ σ.1 0 z := h.2.2.2.1
theorem yJ_w (h : yIs σ) : ∀ z, z < σ.2.1 → σ.1 4 z = 0 ∨ σ.1 4 z = 1 := fun z _ => h.2.2.2.2.1 z
theorem yJ_cs (h : yIs σ) : ∀ z, z < σ.2.2.2.2.1 → σ.2.2.1 5 z = 116 → ∃ q, q < σ.2.1 ∧ σ.2.2.1 3 z = nI q := fun z hz h5 => (yI_ok h z hz).2.2.2.1 (by rw [h5]; decide)
theorem yJ_ds (h : yIs σ) : σ.2.2.2.1 ≤ 80 := Nat.le_trans (yI_ds h) h.2.1
theorem yJ_lt (h : yIs σ) : ∀ z, z < σ.2.2.2.2.1 → σ.2.2.1 5 z = 116 → σ.2.2.2.1 < 80 := fun z hz h5 => yI_lt h hz h5
theorem yJ_ch5 (h : yIs σ) : ∀ z, z < σ.2.2.2.2.1 → narrow .char (.int (σ.2.2.1 5 z)) = .int (σ.2.2.1 5 z) := fun z hz => by
  rcases (yI_ok h z hz).1 with e | e | e | e | e <;> rw [e] <;> rfl
theorem yJ_ch2 (h : yIs σ) : ∀ z, z < σ.2.2.2.2.1 → narrow .char (.int (σ.2.2.1 2 z)) = .int (σ.2.2.1 2 z) := fun z hz => by
  rcases (yI_ok h z hz).2.1 with e | e | e <;> rw [e] <;> rfl
end
