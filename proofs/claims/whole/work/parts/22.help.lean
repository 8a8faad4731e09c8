/-! the law's helpers: a call of the class's method that returns or throws, caught by a table of their own -/
def yNCs : List (String × String) := [("java/lang/ArithmeticException", "java/lang/IllegalArgumentException"), ("java/lang/ArithmeticException", "java/lang/IllegalStateException"), ("java/lang/ArithmeticException", "java/lang/IndexOutOfBoundsException"), ("java/lang/ArithmeticException", "java/util/NoSuchElementException"), ("java/lang/IllegalArgumentException", "java/lang/ArithmeticException"), ("java/lang/IllegalArgumentException", "java/lang/IllegalStateException"), ("java/lang/IllegalArgumentException", "java/lang/IndexOutOfBoundsException"), ("java/lang/IllegalArgumentException", "java/util/NoSuchElementException"), ("java/lang/IllegalStateException", "java/lang/ArithmeticException"), ("java/lang/IllegalStateException", "java/lang/IllegalArgumentException"), ("java/lang/IllegalStateException", "java/lang/IndexOutOfBoundsException"), ("java/lang/IllegalStateException", "java/util/NoSuchElementException"), ("java/lang/IndexOutOfBoundsException", "java/lang/ArithmeticException"), ("java/lang/IndexOutOfBoundsException", "java/lang/IllegalArgumentException"), ("java/lang/IndexOutOfBoundsException", "java/lang/IllegalStateException"), ("java/lang/IndexOutOfBoundsException", "java/util/NoSuchElementException"), ("java/util/NoSuchElementException", "java/lang/ArithmeticException"), ("java/util/NoSuchElementException", "java/lang/IllegalArgumentException"), ("java/util/NoSuchElementException", "java/lang/IllegalStateException"), ("java/util/NoSuchElementException", "java/lang/IndexOutOfBoundsException")]
def yNC (U : State) : Prop := ∀ q ∈ yNCs, va_Nc q.1 q.2 U
def yL (G : va_G) (tys : List (ClassId × FieldType)) (w : va_W) (sz : Nat) : State → Prop := fun U => U.heap.size = sz ∧ va_P G vwCl w U.heap ∧ va_K G vwCl tys U ∧ yEV U ∧ yNC U
theorem yL_blind {av : List Value} {G : va_G} {tys : List (ClassId × FieldType)} {w : va_W} {sz : Nat} : FrameBlind (va_Pc av (yL G tys w sz)) := fun a U g mk q => ⟨q.1, q.2.1, q.2.2.1, va_K.moved (u := U) (U := U.calling g mk a) (Vm.Alike.refl U.vm) q.2.2.2.1, yEV_blind q.2.2.2.2.1, fun z hz => va_Nc.moved (u := U) (U := U.calling g mk a) (Vm.Alike.refl U.vm) (q.2.2.2.2.2 z hz)⟩
theorem yKeep {G : va_G} {w : va_W} {H H1 : Heap} (hP : va_P G vwCl w H) (hk : ∀ q : Nat, q < H.size → H1[q]? = H[q]?) : va_P G vwCl w H1 := fun k q hq => (hP k q hq).kept (hk _ (hP k q hq).lt)
section
variable {p : Program} {l : Launch} {e : Env} {R : Room} {s : State} {m : MethodId} {args : Array Value} {below : List Frame} {meth : Method} {c : Code} {H : Heap} {locs : List Loc} {cells slots mc ms : Nat} {Q : State → Prop} {free : Addr → Prop} {A0 A1 : Nat → Prop} {H0 : Heap} {a : Array Value} {pc : Nat} {ls : Array Slot} {st0 rest : List Value} {px : String → Prop}
abbrev yKx (p : Program) (l : Launch) (e : Env) (R : Room) (s : State) (m : MethodId) (args : Array Value) (below : List Frame) (meth : Method) (c : Code) (H : Heap) (A0 : Nat → Prop) (H0 : Heap) (cells slots mc ms : Nat) (Q : State → Prop) (pc : Nat) (ls : Array Slot) (rest : List Value) (px : String → Prop) : Prop :=
  ∀ (E : String) (ce : Cell) (q9 : Addr) (H1 : Heap) (locs1 : List Loc), px E → (∀ q : Nat, q < H.size → H1[q]? = H[q]?) → va_S A0 H0 H1 locs1 → H1[q9]? = some ce → ce.vm = .none → s.vm.findClass E = some ce.cls → vx_W p l e R s m args below meth c H1 locs1 (cells + mc) (slots + ms) Q (F0 m pc ls rest) q9
theorem y_hcall {S : Type} {post : Int32 → S → Prop} {B : S → State → Prop} (hr : vx_Run p l e R s m args below meth c H locs cells slots mc ms (F0 m pc ls st0) rest (va_Qi post B A1 a) (yX px) free) (hS : va_S A0 H0 H locs) (hA : ∀ q, q < H.size → A1 q → A0 q) (hf : ∀ q, free q → A0 q)
    (kx : yKx p l e R s m args below meth c H A0 H0 cells slots mc ms Q pc ls rest px)
    (kk : ∀ (r : Int32) (u : S) (t : State) (H1 : Heap) (locs1 : List Loc), t.heap = H1 → post r u → B u t → H.size ≤ H1.size → (∀ q : Nat, q < H.size → ¬ A1 q → H1[q]? = H[q]?) → va_S A0 H0 H1 locs1 → W p l e R s m args below meth c H1 locs1 (cells + mc) (slots + ms) Q (F0 m (pc + 3) ls (.int r :: rest))) : W p l e R s m args below meth c H locs cells slots Q (F0 m pc ls st0) := by
  intro T hT X
  rcases hr T hT X with ⟨v, st₀, t, T', L, h0, X', hL, e1, e2, ⟨⟨r, u, hv, hp, hb⟩, hF⟩, st⟩ | ⟨q, st₀, t, T', L, E, ce, h0, X', hL, e1, e2, ⟨hp, hF⟩, hce, hcv, hcl, st⟩
  · cases hv
    obtain ⟨k1, k2, k3⟩ := vx_keep h0 e1 hS hA hf hL hF
    obtain ⟨t2, a1, b1⟩ := kk r u t T'.heap (locs ++ L) e1.symm hp hb k1 k2 k3 T' rfl X'
    exact ⟨t2, st t2 a1, b1⟩
  · obtain ⟨k1, k2, k3⟩ := vx_keep h0 e1 hS (A1 := fun _ => False) (fun q _ h => h.elim) hf hL hF
    obtain ⟨t2, a1, b1⟩ := kx E ce q T'.heap (locs ++ L) hp (fun q9 h9 => k2 q9 h9 (fun z => z)) k3 (by rw [e1]; exact hce) hcv hcl T' rfl X'
    exact ⟨t2, st.trans a1, b1⟩
theorem y_hread {V : Type} {mk : V → Value} {post : V → Prop} {Qa : State → Outcome → State → Prop} (hQ : ∀ (st : State) (o : Outcome) (t : State), Qa st o t → ∃ r : V, o = .returned (some (mk r)) ∧ post r ∧ t.heap = st.heap) (hr : vx_Run p l e R s m args below meth c H locs cells slots mc ms (F0 m pc ls st0) rest Qa (yX px) (fun _ => False)) (hS : va_S A0 H0 H locs)
    (kx : yKx p l e R s m args below meth c H A0 H0 cells slots mc ms Q pc ls rest px)
    (kk : ∀ r : V, post r → W p l e R s m args below meth c H locs (cells + mc) (slots + ms) Q (F0 m (pc + 3) ls (mk r :: rest))) : W p l e R s m args below meth c H locs cells slots Q (F0 m pc ls st0) := by
  intro T hT X
  rcases hr T hT X with ⟨v, st₀, t, T', L, h0, X', hL, e1, e2, hq, st⟩ | ⟨q, st₀, t, T', L, E, ce, h0, X', hL, e1, e2, ⟨hp, hF⟩, hce, hcv, hcl, st⟩
  · obtain ⟨r, hv, hp, hh⟩ := hQ _ _ _ hq
    cases hv
    obtain ⟨t2, a1, b1⟩ := kk r hp T' (by rw [e1, hh, h0]) (Stand.forget X' (fun q h => (hL q h).elim))
    exact ⟨t2, st t2 a1, b1⟩
  · obtain ⟨k1, k2, k3⟩ := vx_keep h0 e1 hS (A1 := fun _ => False) (fun q _ h => h.elim) (free := fun _ => False) (fun q h => h.elim) hL hF
    obtain ⟨t2, a1, b1⟩ := kx E ce q T'.heap (locs ++ L) hp (fun q9 h9 => k2 q9 h9 (fun z => z)) k3 (by rw [e1]; exact hce) hcv hcl T' rfl X'
    exact ⟨t2, st.trans a1, b1⟩
end
theorem yQi {post : Int32 → Prop} {a : Array Value} : ∀ (st : State) (o : Outcome) (t : State), vp_Si post a st o t → ∃ r : Int32, o = .returned (some (Value.int r)) ∧ post r ∧ t.heap = st.heap := fun _ _ _ h => h
theorem yQf {post : UInt32 → Prop} {a : Array Value} : ∀ (st : State) (o : Outcome) (t : State), vp_Sf post a st o t → ∃ r : UInt32, o = .returned (some (Value.float r)) ∧ post r ∧ t.heap = st.heap := fun _ _ _ h => h
theorem yQd {post : UInt64 → Prop} {a : Array Value} : ∀ (st : State) (o : Outcome) (t : State), vp_Sd post a st o t → ∃ r : UInt64, o = .returned (some (Value.double r)) ∧ post r ∧ t.heap = st.heap := fun _ _ _ h => h
abbrev WL (k : Nat → ClassId) (oL : Nat) (fL : Nat → Int64) (h : Nat) (a : Nat → Nat) (c : Nat → Nat) (C : Nat → Nat → Int32) (n0 : Nat) (M : Nat → Nat → Int32) (ds n1 d : Nat) : va_W := (oL, .inl (k 3, 1, .inr (.inl fL))) :: W2 k h a c C n0 M ds n1 d
abbrev WD (k : Nat → ClassId) (oD : Nat) (fD : Nat → UInt64) (h : Nat) (a : Nat → Nat) (c : Nat → Nat) (C : Nat → Nat → Int32) (n0 : Nat) (M : Nat → Nat → Int32) (ds n1 d : Nat) : va_W := (oD, .inl (k 4, 1, .inr (.inr (.inr (.inl fD))))) :: W2 k h a c C n0 M ds n1 d
section
variable {G : va_G} {x : Nat × va_E} {w w' : va_W} {H H1 : Heap} {A : Nat → Prop}
/-- one cell beside a world whose own calls leave it -/
theorem JL (hP : va_P G vwCl (x :: w) H) (hD : va_D A (x :: w)) (hk : ∀ q : Nat, q < H.size → ¬ va_A w H.size q → H1[q]? = H[q]?) (hP1 : va_P G vwCl w' H1) : va_P G vwCl (x :: w') H1 := by
  intro i q hq
  cases i with
  | zero =>
    have hq0 : x = q := Option.some.inj hq
    subst hq0
    have h0 := hP 0 x rfl
    refine h0.kept (hk _ h0.lt ?_)
    rintro (⟨j, e, hj⟩ | hz)
    · have := hD.1 0 (j + 1) x (x.1, e) rfl hj rfl
      omega
    · exact absurd h0.lt (Nat.not_lt.mpr hz)
  | succ i => exact hP1 i q hq
theorem yA_tl {sz q : Nat} (h : va_A w sz q) : va_A (x :: w) sz q := by
  rcases h with ⟨k, e, hk⟩ | h
  · exact Or.inl ⟨k + 1, e, hk⟩
  · exact Or.inr h
theorem yP_tl (hP : va_P G vwCl (x :: w) H) : va_P G vwCl w H := fun k q hk => hP (k + 1) q hk
theorem yD_tl (hD : va_D A (x :: w)) : va_D A w := ⟨fun i j p q hp hq h => by have := hD.1 (i + 1) (j + 1) p q hp hq h; omega, fun k q hk => hD.2 (k + 1) q hk⟩
end
theorem yA_of {w : va_W} {sz : Nat} {A : Nat → Prop} (hD : va_D A w) (hA : ∀ q : Nat, sz ≤ q → A q) {q : Nat} (h : va_A w sz q) : A q := by
  rcases h with ⟨k, e, hk⟩ | h
  · exact hD.2 k _ hk
  · exact hA q h
/-! where an exception is told, nothing has changed -/
theorem o_open_k {x due : Int32} {C : Nat → Nat → Int32} {n0 : Nat} {M : Nat → Nat → Int32} {n1 d : Nat} : ¬ (o_open x due C n0 M n1 d).1 = 0 → (o_open x due C n0 M n1 d).2.2 = (C, M, n0) := by
  unfold o_open; repeat' split
  all_goals first | (intro h; rfl) | (intro h; exact absurd rfl h)
theorem o_pause_k {x dd : Int32} {C : Nat → Nat → Int32} {n0 d : Nat} : ¬ (o_pause x dd C n0 d).1 = 0 → (o_pause x dd C n0 d).2.2 = C := by
  unfold o_pause; repeat' split
  all_goals first | (intro h; rfl) | (intro h; exact absurd rfl h)
theorem o_awaitNote_k {x : Int32} {C : Nat → Nat → Int32} {n0 : Nat} : ¬ (o_awaitNote x C n0).1 = 0 → (o_awaitNote x C n0).2.2 = C := by
  unfold o_awaitNote; repeat' split
  all_goals first | (intro h; rfl) | (intro h; exact absurd rfl h)
theorem o_post_k {q key kd x v dl : Int32} {n0 : Nat} {M : Nat → Nat → Int32} {n1 d : Nat} : ¬ (o_post q key kd x v dl n0 M n1 d).1 = 0 → (o_post q key kd x v dl n0 M n1 d).2.2 = (M, n1) := by
  unfold o_post; repeat' split
  all_goals first | (intro h; rfl) | (intro h; exact absurd rfl h)
theorem tk3_k {M : Nat → Nat → Int32} {u : Int32} {d : Nat} {o : Option Nat} (h : ¬ (tk3 M u d o).1 = 0) : (tk3 M u d o).2.2 = M := by
  cases o with
  | none => rfl
  | some j => exact absurd rfl h
theorem o_takeC_k {u q : Int32} {M : Nat → Nat → Int32} {n1 d : Nat} (h : ¬ (o_takeC u q M n1 d).1 = 0) : (o_takeC u q M n1 d).2.2 = M := by
  unfold o_takeC at h ⊢
  by_cases h1 : rg 0 3 u
  · rw [if_pos h1] at h ⊢
    by_cases h2 : rg 0 2 q
    · rw [if_pos h2] at h ⊢
      by_cases h3 : 2 ≤ cnt (fun z => decide (tkn M u z)) n1 0 0
      · rw [if_pos h3]
      · rw [if_neg h3] at h ⊢; exact tk3_k h
    · rw [if_neg h2]
  · rw [if_neg h1]
theorem o_finishC_k {x : Int32} {C M : Nat → Nat → Int32} {ds n1 : Nat} : ¬ (o_finishC x C M ds n1).1 = 0 → (o_finishC x C M ds n1).2.2 = (C, M, ds) := by
  unfold o_finishC; repeat' split
  all_goals first | (intro h; rfl) | (intro h; exact absurd rfl h)
theorem o_handBackC_k {x : Int32} {M : Nat → Nat → Int32} {n1 d : Nat} : ¬ (o_handBackC x M n1 d).1 = 0 → (o_handBackC x M n1 d).2.2 = M := by
  unfold o_handBackC; repeat' split
  all_goals first | (intro h; rfl) | (intro h; exact absurd rfl h)
theorem o_revive_k {x : Int32} {M : Nat → Nat → Int32} {n1 d : Nat} : ¬ (o_revive x M n1 d).1 = 0 → (o_revive x M n1 d).2.2 = M := by
  unfold o_revive; repeat' split
  all_goals first | (intro h; rfl) | (intro h; exact absurd rfl h)
theorem o_passC_k {dd : Int32} {C : Nat → Nat → Int32} {n0 : Nat} {M : Nat → Nat → Int32} {n1 d : Nat} : ¬ (o_passC dd C n0 M n1 d).1 = 0 → (o_passC dd C n0 M n1 d).2 = ((0, M, n1), d) := by
  unfold o_passC; repeat' split
  all_goals first | (intro h; rfl) | (intro h; exact absurd rfl h)
