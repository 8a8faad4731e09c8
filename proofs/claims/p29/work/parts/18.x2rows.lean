/-! rows for the class: its throws, its calls, what a call of a book leaves of the whole -/
section
variable {p : Program} {l : Launch} {e : Env} {R : Room} {s : State} {m : MethodId} {args : Array Value} {below : List Frame} {meth : Method} {c : Code} {cells slots mc ms : Nat} {free : Addr → Prop} {ls : Array Slot} {rest : List Value} {Qc : Array Value → State → Outcome → State → Prop}
theorem y_thrX {px : String → Prop} {E : String} (h : px E) : ∀ t : State, s.vm.Alike t.vm → s.heap.size ≤ t.heap.size → (∀ q : Nat, q < s.heap.size → t.heap[q]? = s.heap[q]?) → yX px E s t := fun _ _ h1 h2 => ⟨h, h1, fun q h3 _ => h2 q h3⟩
/-- 'throw new E("text")' of the four whose chain has the entry 7 -/
theorem y_thr {cc : ByteArray} {pc ik is ic : Nat} {cls text : String} {px : String → Prop} {Ts : List Cond} (hx : p.tables.exec = Jvm.exec) (hb : c.code = cc) (hl : l.stackTraces = false) (hts : ∀ w ∈ Ts, w.before args s = true) (hE : yEV0 s s.heap)
    (hown : s.vm.findClass RX2 = some m.cls) (hcls : Bundle.fit cls = true) (hk : Cond.classLink RX2 ik cls ∈ Ts) (hini : Cond.initialized cls ∈ Ts) (hst : (is, text) ∈ yST)
    (hat : ∀ w ∈ (vx_atS RX2 ic cls yRE).filter goodWord, w ∈ Ts) (hat2 : ∀ w ∈ (vx_atS RX2 ic cls yRE).filter (fun w => !goodWord w), w ∈ yNW)
    (hot : ∀ w ∈ Cond.classLink RX2 ik cls :: Cond.initialized cls :: vx_atS RX2 ic cls yRE, vx_ot w = true) (hsize : ls.size = c.maxLocals)
    (d0 : decode cc pc = .ok (.new ik, 3)) (d3 : decode cc (pc + 3) = .ok (.dup, 1)) (d4 : decode cc (pc + 4) = .ok (.ldc is, 2)) (d6 : decode cc (pc + 6) = .ok (.invokespecial ic, 3)) (d9 : decode cc (pc + 9) = .ok (.athrow, 1))
    (ht : ∀ x ∈ c.exceptionTable.toList, False) (hR : 5 < R.frames ∧ (rest.map fun v => v.category).sum + 82 ≤ R.locals ∧ cells + 1 ≤ R.cells ∧ slots + 6 ≤ R.slots) (hlocks : meth.locks = false)
    (hpx : px cls) (hc : cells + 1 ≤ mc ∧ slots + 6 ≤ ms) :
    W p l e R s m args below meth c s.heap [] cells slots (vx_MQ below Qc (yX px) args s mc ms free) (F0 m pc ls rest) := by
  obtain ⟨sa, hsa⟩ := hE.2.1 _ hst
  exact vx_throwS (A := fun _ => False) hx hb hl hown hcls (by decide) (hts _ hk) (hts _ hini) hsa (yhat hts hat hat2 hE.1) hot hE.2.2.1 hE.2.2.2 va_S.rf hsize d0 d3 d4 d6 d9 (fun x hx => (ht x hx).elim) hR.1 hR.2.1 hR.2.2.1 hR.2.2.2 hlocks (y_thrX hpx) (fun z hz => nomatch hz) hc.1 hc.2
theorem y_thrN {cc : ByteArray} {pc is : Nat} {text : String} {px : String → Prop} {Ts : List Cond} (hx : p.tables.exec = Jvm.exec) (hb : c.code = cc) (hl : l.stackTraces = false) (hts : ∀ w ∈ Ts, w.before args s = true) (hE : yEV0 s s.heap)
    (hown : s.vm.findClass RX2 = some m.cls) (hk : Cond.classLink RX2 88 yNSE ∈ Ts) (hini : Cond.initialized yNSE ∈ Ts) (hst : (is, text) ∈ yST)
    (hat : ∀ w ∈ (yN_atS RX2 92).filter goodWord, w ∈ Ts) (hsize : ls.size = c.maxLocals)
    (d0 : decode cc pc = .ok (.new 88, 3)) (d3 : decode cc (pc + 3) = .ok (.dup, 1)) (d4 : decode cc (pc + 4) = .ok (.ldc is, 2)) (d6 : decode cc (pc + 6) = .ok (.invokespecial 92, 3)) (d9 : decode cc (pc + 9) = .ok (.athrow, 1))
    (ht : ∀ x ∈ c.exceptionTable.toList, False) (hR : 5 < R.frames ∧ (rest.map fun v => v.category).sum + 82 ≤ R.locals ∧ cells + 1 ≤ R.cells ∧ slots + 6 ≤ R.slots) (hlocks : meth.locks = false)
    (hpx : px yNSE) (hc : cells + 1 ≤ mc ∧ slots + 6 ≤ ms) :
    W p l e R s m args below meth c s.heap [] cells slots (vx_MQ below Qc (yX px) args s mc ms free) (F0 m pc ls rest) := by
  obtain ⟨sa, hsa⟩ := hE.2.1 _ hst
  exact y_throwN hx hb hl hown (hts _ hk) (hts _ hini) hsa (yhat hts hat yat_NSE hE.1) hE.2.2.1 hE.2.2.2 hsize d0 d3 d4 d6 d9 (fun x hx => (ht x hx).elim) hR.1 hR.2.1 hR.2.2.1 hR.2.2.2 hlocks (y_thrX hpx) hc.1 hc.2
end
section
variable {p : Program} {l : Launch} {e : Env} {R : Room} {s : State} {m : MethodId} {args : Array Value} {below : List Frame} {meth : Method} {c : Code} {H : Heap} {locs : List Loc} {cells slots : Nat} {Q : State → Prop}
variable {cc : ByteArray} {pc : Nat} {ls : Array Slot} {rest st0 As : List Value} {G : va_G} {tys : List (ClassId × FieldType)} {w : va_W} {b : Nat} {A0 : Nat → Prop} {H0 : Heap}
variable {y : MethodName} {bytes : ByteArray} {maxL nL n index mc ms mcC msC : Nat} {ret : Option FieldType} {ws : List Cond} {rm : Room} {Ts : List Cond} {own C host : String} {free : Addr → Prop} {Qc : Array Value → State → Outcome → State → Prop} {px pxC : String → Prop} {post : Prop}
theorem y_xv (ht : ∀ x ∈ c.exceptionTable.toList, False) (hlocks : meth.locks = false) (hpx : ∀ E, px E → pxC E) (hcm : cells + mc ≤ mcC ∧ slots + ms ≤ msC) {a : Array Value}
    (hr : vx_Run p l e R s m args below meth c s.heap [] cells slots mc ms (F0 m pc ls st0) rest (va_Sv (fun _ => post) a) (yX px) (fun _ => False))
    (kk : post → W p l e R s m args below meth c s.heap [] (cells + mc) (slots + ms) (vx_MQ below Qc (yX pxC) args s mcC msC free) (F0 m (pc + 3) ls rest)) : W p l e R s m args below meth c s.heap [] cells slots (vx_MQ below Qc (yX pxC) args s mcC msC free) (F0 m pc ls st0) := by
  intro T hT X
  rcases hr T hT X with ⟨v, st₀, t, T', L, h0, X', hL, e1, e2, ⟨hv, hp, hh⟩, st⟩ | ⟨q, st₀, t, T', L, E, ce, h0, X', hL, e1, e2, ⟨hpe, hF⟩, hce, hcv, hcl, st⟩
  · cases hv
    obtain ⟨t2, a1, b1⟩ := kk hp T' (by rw [e1, hh, h0]) (Stand.forget X' (fun q h => (hL q h).elim))
    exact ⟨t2, st t2 a1, b1⟩
  · obtain ⟨hz, hk⟩ := hF
    rw [h0] at hz hk
    obtain ⟨t2, a1, b1⟩ := (vx_out (ls := ls) (rest := rest) (Qc := Qc) (XC := yX pxC) (pc := pc) (E := E) (ce := ce) (q := q) (mc := mcC) (ms := msC) (free := free) (H := T'.heap) (locs := [] ++ L) (fun x hx => (ht x hx).elim) hlocks (by rw [e1]; exact hce) hcv hcl
      (fun t9 ht9 _ => ⟨hpx E hpe, by rw [ht9, e1]; exact hz, fun q9 h9 _ => by rw [ht9, e1]; exact hk q9 h9 (fun z => z)⟩) (fun z hz9 => (hL z hz9).elim) hcm.1 hcm.2) T' rfl X'
    exact ⟨t2, st.trans a1, b1⟩
theorem y_xvV (S : CallFix p m c cc nL s args Ts own) (hM : vx_Met l y ws rm (va_Pc (.ref b :: As) (yE G tys w)) (va_Sv (fun _ => post)) (yX px) mc ms (fun _ => False)) (cw : CallW R s args own C index y bytes maxL ret ws rm mc ms n) (hE : yEV0 s s.heap) (hK : va_K G vwCl tys s) (hP : va_P G vwCl w s.heap) (hrc : ∃ cell : Cell, s.heap[b]? = some cell ∧ cell.vm.isStatics = false ∧ s.vm.findClass C = some cell.cls)
    (hn : As.length = n) (hsize : ls.size = nL) (hst : st0 = As.reverse ++ .ref b :: rest) (hW : (rest.map fun v => v.category).sum ≤ 8) (hdg : decode cc pc = .ok (.invokevirtual index, 3)) (hf : cells + mc ≤ R.cells ∧ slots + ms ≤ R.slots)
    (ht : ∀ x ∈ c.exceptionTable.toList, False) (hlocks : meth.locks = false) (hpx : ∀ E, px E → pxC E) (hcm : cells + mc ≤ mcC ∧ slots + ms ≤ msC)
    (kk : post → W p l e R s m args below meth c s.heap [] (cells + mc) (slots + ms) (vx_MQ below Qc (yX pxC) args s mcC msC free) (F0 m (pc + 3) ls rest)) : W p l e R s m args below meth c s.heap [] cells slots (vx_MQ below Qc (yX pxC) args s mcC msC free) (F0 m pc ls st0) :=
  y_xv ht hlocks hpx hcm (vx_runV S hM cw ⟨yE_blind, hrc, fun U hU hW => ⟨rfl, by rw [hU]; exact hP, va_K.moved hW.alike hK, yEV_at hE hU hW⟩⟩ rfl hn hsize hst (lv_room hW) hdg hf) kk
theorem y_xvS (S : CallFix p m c cc nL s args Ts own) (hM : vx_Met l y ws rm (va_Pc As yEV) (va_Sv (fun _ => post)) (yX px) mc ms (fun _ => False)) (cw : CallB R s args own index y bytes maxL ret ws rm mc ms n ∧ (Cond.static y).before args s = true) (hE : yEV0 s s.heap)
    (hn : As.length = n) (hsize : ls.size = nL) (hst : st0 = As.reverse ++ rest) (hW : (rest.map fun v => v.category).sum ≤ 8) (hdg : decode cc pc = .ok (.invokestatic index, 3)) (hf : cells + mc ≤ R.cells ∧ slots + ms ≤ R.slots)
    (ht : ∀ x ∈ c.exceptionTable.toList, False) (hlocks : meth.locks = false) (hpx : ∀ E, px E → pxC E) (hcm : cells + mc ≤ mcC ∧ slots + ms ≤ msC)
    (kk : post → W p l e R s m args below meth c s.heap [] (cells + mc) (slots + ms) (vx_MQ below Qc (yX pxC) args s mcC msC free) (F0 m (pc + 3) ls rest)) : W p l e R s m args below meth c s.heap [] cells slots (vx_MQ below Qc (yX pxC) args s mcC msC free) (F0 m pc ls st0) :=
  y_xv ht hlocks hpx hcm (vx_runS S hM cw ⟨yEV_blind', fun U hU hW => ⟨rfl, yEV_at hE hU hW⟩⟩ rfl hn hsize hst (lv_room hW) hdg hf) kk
/-- what a method of the class that throws nothing takes as given -/
def yF (G : va_G) (tys : List (ClassId × FieldType)) (w : va_W) : State → Prop := fun U => va_P G vwCl w U.heap ∧ va_K G vwCl tys U ∧ ∀ w ∈ yNW, va_Nw w U
def yFs (G : va_G) (tys : List (ClassId × FieldType)) (w : va_W) (sz : Nat) : State → Prop := fun U => U.heap.size = sz ∧ va_P G vwCl w U.heap ∧ va_K G vwCl tys U ∧ ∀ w ∈ yNW, va_Nw w U
theorem yNW_blind {a : Array Value} {U : State} {g : JFrame} {mk : MethodId} (h : ∀ w ∈ yNW, va_Nw w U) : ∀ w ∈ yNW, va_Nw w (U.calling g mk a) := fun w hw => va_Nw.same (u := U) (U := U.calling g mk a) (ykind_tab (yNW_kind w hw)) rfl (h w hw)
theorem yF_blind {av : List Value} {G : va_G} {tys : List (ClassId × FieldType)} {w : va_W} : FrameBlind (va_Pc av (yF G tys w)) := fun a U g mk q => ⟨q.1, q.2.1, va_K.moved (u := U) (U := U.calling g mk a) (Vm.Alike.refl U.vm) q.2.2.1, yNW_blind q.2.2.2⟩
theorem yFs_blind {av : List Value} {G : va_G} {tys : List (ClassId × FieldType)} {w : va_W} {sz : Nat} : FrameBlind (va_Pc av (yFs G tys w sz)) := fun a U g mk q => ⟨q.1, q.2.1, q.2.2.1, va_K.moved (u := U) (U := U.calling g mk a) (Vm.Alike.refl U.vm) q.2.2.2.1, yNW_blind q.2.2.2.2⟩
theorem yNW_at {s U : State} (h : ∀ w ∈ yNW, va_Nw w s) (hW : s.WarmedH U.vm) : ∀ w ∈ yNW, va_Nw w U := fun w hw => ykind_warm (yNW_kind w hw) hW (h w hw)
/-- calls of the class's own methods that throw nothing -/
theorem y_reV {post : Int32 → Prop} (hE : ∀ w ∈ yNW, va_Nw w s) (S : CallFix p m c cc nL s args Ts own) (hM : Met l y ws rm (va_Pc (.ref b :: As) (yF G tys w)) (vp_Si post) 0 0 (fun _ => False)) (cw : CallW R s args own C index y bytes maxL ret ws rm 0 0 n) (hK : va_K G vwCl tys s) (hP : va_P G vwCl w H) (hrc : ∃ cell : Cell, H[b]? = some cell ∧ cell.vm.isStatics = false ∧ s.vm.findClass C = some cell.cls)
    (hn : As.length = n) (hsize : ls.size = nL) (hst : st0 = As.reverse ++ .ref b :: rest) (hW : (rest.map fun v => v.category).sum ≤ 8) (hdg : decode cc pc = .ok (.invokevirtual index, 3)) (hf : cells ≤ R.cells ∧ slots ≤ R.slots)
    (kk : ∀ r : Int32, post r → W p l e R s m args below meth c H locs cells slots Q (F0 m (pc + 3) ls (.int r :: rest))) : W p l e R s m args below meth c H locs cells slots Q (F0 m pc ls st0) :=
  y_callSi (va_runV S hM cw ⟨yF_blind, hrc, fun U hU hW => ⟨rfl, by rw [hU]; exact hP, va_K.moved hW.alike hK, yNW_at hE hW⟩⟩ rfl hn hsize hst (lv_room hW) hdg hf) kk
theorem y_weV {σ : Type} {post : Int32 → σ → Prop} {w' : σ → va_W} (hE : ∀ w ∈ yNW, va_Nw w s) (S : CallFix p m c cc nL s args Ts own) (hM : Met l y ws rm (va_Pc (.ref b :: As) (yFs G tys w H.size)) (va_Qi post (fun u t => va_P G vwCl (w' u) t.heap) (va_A w H.size)) 0 0 (va_A w H.size)) (cw : CallW R s args own C index y bytes maxL ret ws rm 0 0 n) (hK : va_K G vwCl tys s) (hP : va_P G vwCl w H) (hrc : ∃ cell : Cell, H[b]? = some cell ∧ cell.vm.isStatics = false ∧ s.vm.findClass C = some cell.cls) (hS : va_S A0 H0 H locs) (hfr : ∀ q, va_A w H.size q → A0 q)
    (hn : As.length = n) (hsize : ls.size = nL) (hst : st0 = As.reverse ++ .ref b :: rest) (hW : (rest.map fun v => v.category).sum ≤ 8) (hdg : decode cc pc = .ok (.invokevirtual index, 3)) (hf : cells ≤ R.cells ∧ slots ≤ R.slots)
    (kk : ∀ (r : Int32) (u : σ) (H1 : Heap) (locs1 : List Loc), post r u → va_P G vwCl (w' u) H1 → H.size ≤ H1.size → (∀ q : Nat, q < H.size → ¬ va_A w H.size q → H1[q]? = H[q]?) → va_S A0 H0 H1 locs1 → W p l e R s m args below meth c H1 locs1 (cells + 0) (slots + 0) Q (F0 m (pc + 3) ls (.int r :: rest))) : W p l e R s m args below meth c H locs cells slots Q (F0 m pc ls st0) :=
  va_calli (va_runV S hM cw ⟨yFs_blind, hrc, fun U hU hW => ⟨rfl, by rw [hU], by rw [hU]; exact hP, va_K.moved hW.alike hK, yNW_at hE hW⟩⟩ rfl hn hsize hst (lv_room hW) hdg hf) hS (fun q _ h => hfr q h) hfr (fun r u t H1 locs1 ht hvm hp hB hz hk hS1 => kk r u H1 locs1 hp (by rw [← ht]; exact hB) hz hk hS1)
end
section
variable {G : va_G} {k : Nat → ClassId} {h : Nat} {a c : Nat → Nat} {C C' : Nat → Nat → Int32} {n0 n0' : Nat} {M M' : Nat → Nat → Int32} {ds ds' n1 n1' d : Nat} {H H1 : Heap} {A : Nat → Prop}
theorem J20 (hP : va_P G vwCl (W2 k h a c C n0 M ds n1 d) H) (hD : va_D A (W2 k h a c C n0 M ds n1 d)) (hF : ∀ q, va_A (W0 k a C n0) H.size q → A q) (hk : ∀ q : Nat, q < H.size → ¬ va_A (W0 k a C n0) H.size q → H1[q]? = H[q]?) (hP1 : va_P G vwCl (W0 k a C' n0') H1) : va_P G vwCl (W2 k h a c C' n0' M ds n1 d) H1 := by
  have hD0 : va_D (va_A (W0 k a C n0) H.size) (W0 k a C' n0') := yD (hD.sub (ws' := W0 k a C n0) [1, 2, 3, 4, 5, 6, 7] (by decide) rfl).self rfl
  have h1 := (va_join (wr := (h, .inr (4, [.ref (a 0), .ref (c 0), .int (nI d)])) :: W1 k c M ds n1) (wc := W0 k a C n0) hP hD [1, 2, 3, 4, 5, 6, 7] [0, 8, 9, 10, 11, 12, 13, 14, 15, 16, 17, 18, 19] rfl rfl (by decide) (by decide) hk hF hP1 hD0).1
  exact h1.sub [0, 13, 14, 15, 16, 17, 18, 19, 1, 2, 3, 4, 5, 6, 7, 8, 9, 10, 11, 12] rfl
theorem J21 (hP : va_P G vwCl (W2 k h a c C n0 M ds n1 d) H) (hD : va_D A (W2 k h a c C n0 M ds n1 d)) (hF : ∀ q, va_A (W1 k c M ds n1) H.size q → A q) (hk : ∀ q : Nat, q < H.size → ¬ va_A (W1 k c M ds n1) H.size q → H1[q]? = H[q]?) (hP1 : va_P G vwCl (W1 k c M' ds' n1') H1) : va_P G vwCl (W2 k h a c C n0 M' ds' n1' d) H1 := by
  have hD0 : va_D (va_A (W1 k c M ds n1) H.size) (W1 k c M' ds' n1') := yD (hD.sub (ws' := W1 k c M ds n1) [8, 9, 10, 11, 12, 13, 14, 15, 16, 17, 18, 19] (by decide) rfl).self rfl
  have h1 := (va_join (wr := (h, .inr (4, [.ref (a 0), .ref (c 0), .int (nI d)])) :: W0 k a C n0) (wc := W1 k c M ds n1) hP hD [8, 9, 10, 11, 12, 13, 14, 15, 16, 17, 18, 19] [0, 1, 2, 3, 4, 5, 6, 7] rfl rfl (by decide) (by decide) hk hF hP1 hD0).1
  exact h1.sub [0, 1, 2, 3, 4, 5, 6, 7, 8, 9, 10, 11, 12, 13, 14, 15, 16, 17, 18, 19] rfl
end
