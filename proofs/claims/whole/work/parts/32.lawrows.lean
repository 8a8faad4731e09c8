/-! rows for the law's walk -/
theorem yP_app {G : va_G} {w1 w2 : va_W} {H : Heap} (h1 : va_P G vwCl w1 H) (h2 : va_P G vwCl w2 H) : va_P G vwCl (w1 ++ w2) H := h1.app h2
theorem yP_l {G : va_G} {w1 w2 : va_W} {H : Heap} (h : va_P G vwCl (w1 ++ w2) H) : va_P G vwCl w1 H := fun k q hk => h k q (by rw [List.getElem?_append_left (List.getElem?_eq_some_iff.mp hk).1]; exact hk)
theorem yP_r {G : va_G} {w1 w2 : va_W} {H : Heap} (h : va_P G vwCl (w1 ++ w2) H) : va_P G vwCl w2 H := fun k q hk => h (w1.length + k) q (by rw [List.getElem?_append_right (Nat.le_add_right _ _), Nat.add_sub_cancel_left]; exact hk)
theorem yD_l {A : Nat → Prop} {w1 w2 : va_W} (h : va_D A (w1 ++ w2)) : va_D A w1 := by
  have at' : ∀ (k : Nat) (q : Nat × va_E), w1[k]? = some q → (w1 ++ w2)[k]? = some q := fun k q hk => by rw [List.getElem?_append_left (List.getElem?_eq_some_iff.mp hk).1]; exact hk
  exact ⟨fun i j x y hx hy hxy => h.1 i j x y (at' i x hx) (at' j y hy) hxy, fun k q hk => h.2 k q (at' k q hk)⟩
theorem keepP {G : va_G} {w1 w2 : va_W} {A : Nat → Prop} {H H1 : Heap} (hD : va_D A (w1 ++ w2)) (hP : va_P G vwCl w2 H) (hk : ∀ q : Nat, q < H.size → ¬ va_A w1 H.size q → H1[q]? = H[q]?) : va_P G vwCl w2 H1 := by
  intro k q hq
  have h0 := hP k q hq
  refine h0.kept (hk _ h0.lt ?_)
  rintro (⟨i, e, hi⟩ | hz)
  · have h1 : (w1 ++ w2)[i]? = some (q.1, e) := by rw [List.getElem?_append_left (List.getElem?_eq_some_iff.mp hi).1]; exact hi
    have h2 : (w1 ++ w2)[w1.length + k]? = some q := by rw [List.getElem?_append_right (Nat.le_add_right _ _), Nat.add_sub_cancel_left]; exact hq
    have h3 := hD.1 i (w1.length + k) (q.1, e) q h1 h2 rfl
    have h4 := (List.getElem?_eq_some_iff.mp hi).1
    omega
  · exact absurd h0.lt (Nat.not_lt.mpr hz)
section
variable {p : Program} {l : Launch} {e : Env} {R : Room} {s : State} {m : MethodId} {args : Array Value} {below : List Frame} {meth : Method} {c : Code} {H : Heap} {locs : List Loc} {cells slots mc ms : Nat} {Q : State → Prop} {A : Nat → Prop} {H0 : Heap} {a : Array Value} {pc : Nat} {ls : Array Slot} {st0 rest : List Value} {cc : ByteArray} {G : va_G}
theorem y_lcall {S : Type} {post : Int32 → S → Prop} {w1 w2 : va_W} {w1' : S → va_W} (hr : va_Run p l e R s m args below meth c H locs cells slots mc ms (F0 m pc ls st0) rest (va_Qi post (fun u τ => va_P G vwCl (w1' u) τ.heap) (va_A w1 H.size) a) (va_A w1 H.size)) (hP : va_P G vwCl (w1 ++ w2) H) (hD : va_D A (w1 ++ w2)) (hA : ∀ q : Nat, H0.size ≤ q → A q) (hS : va_S A H0 H locs)
    (kk : ∀ (r : Int32) (u : S) (H1 : Heap) (locs1 : List Loc), post r u → va_P G vwCl (w1' u ++ w2) H1 → va_S A H0 H1 locs1 → W p l e R s m args below meth c H1 locs1 (cells + mc) (slots + ms) Q (F0 m (pc + 3) ls (.int r :: rest))) : W p l e R s m args below meth c H locs cells slots Q (F0 m pc ls st0) := by
  have hA1 : ∀ q : Nat, va_A w1 H.size q → A q := fun q h => yA_of (yD_l hD) (fun z hz => hA z (Nat.le_trans hS.1 hz)) h
  refine va_calli hr hS (fun q _ h => hA1 q h) hA1 (fun r u t H1 locs1 ht hvm hp hB hz hk hS1 => ?_)
  rw [ht] at hB
  exact kk r u H1 locs1 hp (hB.app (keepP hD (yP_r hP) hk)) hS1
theorem y_lcallf {S : Type} {post : UInt32 → S → Prop} {w1 w2 : va_W} {w1' : S → va_W} (hr : va_Run p l e R s m args below meth c H locs cells slots mc ms (F0 m pc ls st0) rest (va_Qf post (fun u τ => va_P G vwCl (w1' u) τ.heap) (va_A w1 H.size) a) (va_A w1 H.size)) (hP : va_P G vwCl (w1 ++ w2) H) (hD : va_D A (w1 ++ w2)) (hA : ∀ q : Nat, H0.size ≤ q → A q) (hS : va_S A H0 H locs)
    (kk : ∀ (r : UInt32) (u : S) (H1 : Heap) (locs1 : List Loc), post r u → va_P G vwCl (w1' u ++ w2) H1 → va_S A H0 H1 locs1 → W p l e R s m args below meth c H1 locs1 (cells + mc) (slots + ms) Q (F0 m (pc + 3) ls (.float r :: rest))) : W p l e R s m args below meth c H locs cells slots Q (F0 m pc ls st0) := by
  have hA1 : ∀ q : Nat, va_A w1 H.size q → A q := fun q h => yA_of (yD_l hD) (fun z hz => hA z (Nat.le_trans hS.1 hz)) h
  refine va_callf hr hS (fun q _ h => hA1 q h) hA1 (fun r u t H1 locs1 ht hvm hp hB hz hk hS1 => ?_)
  rw [ht] at hB
  exact kk r u H1 locs1 hp (hB.app (keepP hD (yP_r hP) hk)) hS1
theorem y_lcalld {S : Type} {post : UInt64 → S → Prop} {w1 w2 : va_W} {w1' : S → va_W} (hr : va_Run p l e R s m args below meth c H locs cells slots mc ms (F0 m pc ls st0) rest (va_Qd post (fun u τ => va_P G vwCl (w1' u) τ.heap) (va_A w1 H.size) a) (va_A w1 H.size)) (hP : va_P G vwCl (w1 ++ w2) H) (hD : va_D A (w1 ++ w2)) (hA : ∀ q : Nat, H0.size ≤ q → A q) (hS : va_S A H0 H locs)
    (kk : ∀ (r : UInt64) (u : S) (H1 : Heap) (locs1 : List Loc), post r u → va_P G vwCl (w1' u ++ w2) H1 → va_S A H0 H1 locs1 → W p l e R s m args below meth c H1 locs1 (cells + mc) (slots + ms) Q (F0 m (pc + 3) ls (.double r :: rest))) : W p l e R s m args below meth c H locs cells slots Q (F0 m pc ls st0) := by
  have hA1 : ∀ q : Nat, va_A w1 H.size q → A q := fun q h => yA_of (yD_l hD) (fun z hz => hA z (Nat.le_trans hS.1 hz)) h
  refine va_calld hr hS (fun q _ h => hA1 q h) hA1 (fun r u t H1 locs1 ht hvm hp hB hz hk hS1 => ?_)
  rw [ht] at hB
  exact kk r u H1 locs1 hp (hB.app (keepP hD (yP_r hP) hk)) hS1
theorem y_lcmp (hexec : p.tables.exec = Jvm.exec) (hb : c.code = cc) {x y : Int64} (hxy : x = y) (hdg : decode cc pc = .ok (.lcmp, 1))
    (k : W p l e R s m args below meth c H locs cells slots Q (F0 m (pc + 1) ls (.int 0 :: rest))) : W p l e R s m args below meth c H locs cells slots Q (F0 m pc ls (.long y :: .long x :: rest)) := by
  subst hxy
  have h1 : ¬ x < x := Int64.lt_irrefl
  intro T hT X
  obtain ⟨t, a, b⟩ := k T hT X
  refine ⟨t, ?_, b⟩
  jvm_step X.here [X.here.top, hexec, hb, hdg, h1]
  exact a
/-- script[i + j] -/
theorem y_scr {j n1 : Nat} {b L : Nat} {xs : Nat → Int32} {i : Nat} {lv : List (Nat × Value)} (hx : p.tables.exec = Jvm.exec) (hb : c.code = cc) (hX : va_X b L xs s H0) (hbl : b < H0.size) (hbA : ¬ A b) (hS : va_S A H0 H locs) (hl : lv_has ls 9 lv) (h0 : lv[0]? = some (0, .ref b)) (h5 : lv[5]? = some (5, .int (nI i))) (hi : i + j < L) (hL : L < 2 ^ 31)
    (d0 : decode cc pc = .ok (.aload_n 0, 1)) (d1 : decode cc (pc + 1) = .ok (.iload 5, 2)) (k3 : ∀ st : List Value, W p l e R s m args below meth c H locs cells slots Q (F0 m (pc + 3 + n1) ls (.int (nI j) :: st)) → W p l e R s m args below meth c H locs cells slots Q (F0 m (pc + 3) ls st)) (d4 : decode cc (pc + 3 + n1) = .ok (.iadd, 1)) (d5 : decode cc (pc + 3 + n1 + 1) = .ok (.iaload, 1))
    (kk : W p l e R s m args below meth c H locs cells slots Q (F0 m (pc + 3 + n1 + 2) ls (.int (xs (i + j)) :: rest))) : W p l e R s m args below meth c H locs cells slots Q (F0 m pc ls rest) := by
  refine lv_aload_n hx hb d0 rfl (lv_at hl 0 h0) ?_
  refine lv_iload hx hb d1 (lv_at hl 5 h5) ?_
  refine k3 _ ?_
  refine lv_iadd hx hb d4 ?_
  have e : nI i + nI j = nI (i + j) := by
    apply Int32.toInt_inj.mp
    rw [Int32.toInt_add, nI_toInt (by omega), nI_toInt (by omega), nI_toInt (by omega), Int.bmod_def]
    split <;> omega
  rw [e]
  refine va_sld hx hb hX hbl hbA hS (vp_in_nI hi hL) d5 ?_
  rw [nI_clamp (by omega)]
  exact kk
end
abbrev WA (k : Nat → ClassId) (oL : Nat) (fL : Nat → Int64) (oD : Nat) (fD : Nat → UInt64) (h : Nat) (a c a3 : Nat → Nat) (C : Nat → Nat → Int32) (n0 : Nat) (M : Nat → Nat → Int32) (ds n1 d : Nat) (R : Nat → Nat → Int32) (th : Int32) : va_W := WL k oL fL h a c C n0 M ds n1 d ++ ((oD, .inl (k 4, 1, .inr (.inr (.inr (.inl fD))))) :: W3 k a3 C n0 R n1 d th)
