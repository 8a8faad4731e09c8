/-! THE CLASS ITSELF: what its methods take as given beside the cells (links to its nest mates, texts, two statics), its throws, its calls -/
abbrev yNSE : String := "java/util/NoSuchElementException"
abbrev yRTE : String := "java/lang/RuntimeException"
abbrev yEXC : String := "java/lang/Exception"
abbrev yRE : List String := [yRTE, yEXC]
def yNW : List Cond := [.methodLinkNest RX2 9 yX0_init "DunningDesk", .methodLinkNest RX2 18 yX1_init "DunningDesk", .methodLinkNest RX2 38 yX0_isFull "DunningDesk", .methodLinkNest RX2 47 yX0_add "DunningDesk", .methodLinkNest RX2 51 yX1_release "DunningDesk", .methodLinkNest RX2 68 yX0_pauseUntil "DunningDesk", .methodLinkNest RX2 81 yX1_lettersFrom "DunningDesk", .methodLinkNest RX2 93 yX0_reminderDay "DunningDesk", .methodLinkNest RX2 112 yX1_find "DunningDesk", .methodLinkNest RX2 115 yX1_isFull "DunningDesk", .methodLinkNest RX2 118 yX1_add "DunningDesk", .methodLinkNest RX2 121 yX0_contains "DunningDesk", .methodLinkNest RX2 146 yX1_countReady "DunningDesk", .methodLinkNest RX2 151 yX1_nextReady "DunningDesk", .methodLinkNest RX2 158 yX1_countTakenBy "DunningDesk", .methodLinkNest RX2 165 yX1_giveTo "DunningDesk", .methodLinkNest RX2 169 yX1_close "DunningDesk", .methodLinkNest RX2 175 yX1_putBack "DunningDesk", .methodLinkNest RX2 178 yX1_wake "DunningDesk", .methodLinkNest RX2 181 yX1_countIn "DunningDesk", .methodLinkNest RX2 190 yX1_putBackTakenUntil "DunningDesk", .methodLinkNest RX2 220 yX0_isOpen "DunningDesk", .methodLinkNest RX2 225 yX1_contains "DunningDesk", .methodLinkNest RX2 240 yX0_pay "DunningDesk", .methodLinkNest RX2 244 yX0_endWait "DunningDesk", .methodLinkNest RX2 247 yX0_sendLetter "DunningDesk", .fieldLinkNest RX2 59 "DunningDesk$CaseBook" "amounts" "[I" "DunningDesk", .fieldLinkNest RX2 71 "DunningDesk$CaseBook" "awaitsNote" "[Z" "DunningDesk", .fieldLinkNest RX2 75 "DunningDesk$CaseBook" "lettersSent" "[I" "DunningDesk", .fieldLinkNest RX2 78 "DunningDesk$CaseBook" "firstAmounts" "[I" "DunningDesk", .fieldLinkNest RX2 102 "DunningDesk$CaseBook" "pauseEnds" "[I" "DunningDesk", .fieldLinkNest RX2 124 "DunningDesk$MessageBook" "states" "[C" "DunningDesk", .fieldLinkNest RX2 133 "DunningDesk$MessageBook" "kinds" "[C" "DunningDesk", .fieldLinkNest RX2 136 "DunningDesk$MessageBook" "triesMade" "[I" "DunningDesk", .fieldLinkNest RX2 143 "DunningDesk$MessageBook" "readyDays" "[I" "DunningDesk", .fieldLinkNest RX2 187 "DunningDesk$MessageBook" "takers" "[I" "DunningDesk", .fieldLinkNest RX2 199 "DunningDesk$MessageBook" "size" "I" "DunningDesk", .fieldLinkNest RX2 234 "DunningDesk$MessageBook" "caseNumbers" "[I" "DunningDesk", .fieldLinkNest RX2 237 "DunningDesk$MessageBook" "contents" "[I" "DunningDesk", .fieldLinkNest RX2 253 "DunningDesk$CaseBook" "size" "I" "DunningDesk", .castable "java/lang/IllegalArgumentException" "java/lang/IllegalArgumentException", .castable "java/lang/IllegalStateException" "java/lang/IllegalStateException", .castable "java/lang/IndexOutOfBoundsException" "java/lang/IndexOutOfBoundsException", .castable "java/lang/ArithmeticException" "java/lang/ArithmeticException", .castable "java/util/NoSuchElementException" "java/util/NoSuchElementException", .declares (Bundle.initS yRTE), .declares (Bundle.initS yEXC), .declares (Bundle.initS Bundle.tN)]
def yST : List (Nat × String) := [(33, "the amount or the due day is out of range"), (44, "there are 8 cases"), (63, "the number of days is out of range"), (90, "no reminder would be posted"), (108, "there is no such kind"), (110, "a number is out of range"), (116, "there are 80 messages"), (128, "no message has this key"), (149, "there is no such place"), (161, "the clerk has 2 messages"), (163, "no message waits and is ready"), (185, "the message is not taken"), (197, "there is no such state"), (204, "there are no messages"), (217, "there is no such case"), (223, "the case is not open"), (226, "there is no such message"), (228, "the message is in another state"), (230, "there is no such queue"), (232, "there is no such clerk")]
def ykind : Cond → Bool
  | .fieldLinkNest .. => true
  | .methodLinkNest .. => true
  | .castable .. => true
  | .declares _ => true
  | _ => false
theorem yNW_kind : ∀ w ∈ yNW, ykind w = true := by decide +kernel
theorem ykind_tab {w : Cond} (h : ykind w = true) : w.onTables = true := by cases w <;> first | rfl | (cases h)
theorem ykind_warm {w : Cond} (h : ykind w = true) {s U : State} (hW : s.WarmedH U.vm) (hZ : va_Nw w s) : va_Nw w U := by
  cases w <;> first | exact va_Nw.warmF hW hZ | exact va_Nw.warmM hW hZ | exact va_Nw.warmC hW hZ | exact va_Nw.warmD hW hZ | (cases h)
/-- what the class's methods take as given, of the state s with the heap H -/
def yEV0 (s : State) (H : Heap) : Prop := (∀ w ∈ yNW, va_Nw w s) ∧ (∀ q ∈ yST, ∃ sa : Nat, vk_R RX2 q.1 q.2 sa s) ∧ vx_Zq Bundle.tN "UNASSIGNED_STACK" Bundle.steD (fun _ => False) s H ∧ vx_Zq Bundle.tN "SUPPRESSED_SENTINEL" Bundle.listD (fun _ => False) s H
def yEV (U : State) : Prop := yEV0 U U.heap
theorem yEV_at {s : State} {H : Heap} (h : yEV0 s H) {U : State} (hU : U.heap = H) (hW : s.WarmedH U.vm) : yEV U := by
  obtain ⟨h1, h2, h3, h4⟩ := h
  refine ⟨fun w hw => ykind_warm (yNW_kind w hw) hW (h1 w hw), fun q hq => ?_, by rw [hU]; exact vx_Zq.moved hW.alike h3, by rw [hU]; exact vx_Zq.moved hW.alike h4⟩
  obtain ⟨sa, hs⟩ := h2 q hq
  exact ⟨sa, vk_R.warm hW hs⟩
theorem yEV_blind {a : Array Value} {U : State} {g : JFrame} {mk : MethodId} (h : yEV U) : yEV (U.calling g mk a) := by
  obtain ⟨h1, h2, h3, h4⟩ := h
  refine ⟨fun w hw => va_Nw.same (u := U) (U := U.calling g mk a) (ykind_tab (yNW_kind w hw)) rfl (h1 w hw), fun q hq => ?_, vx_Zq.moved (u := U) (U := U.calling g mk a) (Vm.Alike.refl U.vm) h3, vx_Zq.moved (u := U) (U := U.calling g mk a) (Vm.Alike.refl U.vm) h4⟩
  obtain ⟨sa, hs⟩ := h2 q hq
  exact ⟨sa, vk_R.same (u := U) (U := U.calling g mk a) rfl hs⟩
theorem yEV0_kept {s : State} {H H1 : Heap} {A : Nat → Prop} (h : yEV0 s H) (hS : va_S A H H1 []) (hA : ∀ q : Nat, q < H.size → ¬ A q) : yEV0 s H1 := by
  obtain ⟨h1, h2, h3, h4⟩ := h
  exact ⟨h1, h2, vx_Zq.kept h3 (fun q hq _ => hS.2.1 q hq (hA q hq)), vx_Zq.kept h4 (fun q hq _ => hS.2.1 q hq (hA q hq))⟩
def yE (G : va_G) (tys : List (ClassId × FieldType)) (w : va_W) : State → Prop := fun U => va_P G vwCl w U.heap ∧ va_K G vwCl tys U ∧ yEV U
def yEs (G : va_G) (tys : List (ClassId × FieldType)) (w : va_W) (sz : Nat) : State → Prop := fun U => U.heap.size = sz ∧ va_P G vwCl w U.heap ∧ va_K G vwCl tys U ∧ yEV U
theorem yE_blind {av : List Value} {G : va_G} {tys : List (ClassId × FieldType)} {w : va_W} : FrameBlind (va_Pc av (yE G tys w)) := fun a U g mk q => ⟨q.1, q.2.1, va_K.moved (u := U) (U := U.calling g mk a) (Vm.Alike.refl U.vm) q.2.2.1, yEV_blind q.2.2.2⟩
theorem yEs_blind {av : List Value} {G : va_G} {tys : List (ClassId × FieldType)} {w : va_W} {sz : Nat} : FrameBlind (va_Pc av (yEs G tys w sz)) := fun a U g mk q => ⟨q.1, q.2.1, q.2.2.1, va_K.moved (u := U) (U := U.calling g mk a) (Vm.Alike.refl U.vm) q.2.2.2.1, yEV_blind q.2.2.2.2⟩
theorem yEV_blind' {av : List Value} : FrameBlind (va_Pc av yEV) := fun _ _ _ _ q => ⟨q.1, yEV_blind q.2⟩
/-- a method that throws leaves every old cell as it was -/
def yX (px : String → Prop) : String → State → State → Prop := fun E st t => px E ∧ va_F (fun _ => False) st t
/-! the words of the throws, by class -/
theorem yat_IAE : ∀ w ∈ (vx_atS RX2 35 "java/lang/IllegalArgumentException" yRE).filter (fun w => !goodWord w), w ∈ yNW := by decide +kernel
theorem yat_ISE : ∀ w ∈ (vx_atS RX2 46 "java/lang/IllegalStateException" yRE).filter (fun w => !goodWord w), w ∈ yNW := by decide +kernel
theorem yat_IOB : ∀ w ∈ (vx_atS RX2 219 "java/lang/IndexOutOfBoundsException" yRE).filter (fun w => !goodWord w), w ∈ yNW := by decide +kernel
theorem yat_ARI : ∀ w ∈ (vx_atS RX2 206 "java/lang/ArithmeticException" yRE).filter (fun w => !goodWord w), w ∈ yNW := by decide +kernel
theorem yat_NSE : ∀ w ∈ (yN_atS RX2 92).filter (fun w => !goodWord w), w ∈ yNW := by decide +kernel
theorem yot_IAE : ∀ w ∈ Cond.classLink RX2 31 "java/lang/IllegalArgumentException" :: Cond.initialized "java/lang/IllegalArgumentException" :: vx_atS RX2 35 "java/lang/IllegalArgumentException" yRE, vx_ot w = true := by decide +kernel
theorem yot_ISE : ∀ w ∈ Cond.classLink RX2 42 "java/lang/IllegalStateException" :: Cond.initialized "java/lang/IllegalStateException" :: vx_atS RX2 46 "java/lang/IllegalStateException" yRE, vx_ot w = true := by decide +kernel
theorem yot_IOB : ∀ w ∈ Cond.classLink RX2 215 "java/lang/IndexOutOfBoundsException" :: Cond.initialized "java/lang/IndexOutOfBoundsException" :: vx_atS RX2 219 "java/lang/IndexOutOfBoundsException" yRE, vx_ot w = true := by decide +kernel
theorem yot_ARI : ∀ w ∈ Cond.classLink RX2 202 "java/lang/ArithmeticException" :: Cond.initialized "java/lang/ArithmeticException" :: vx_atS RX2 206 "java/lang/ArithmeticException" yRE, vx_ot w = true := by decide +kernel
theorem yot_NSE : ∀ w ∈ Cond.classLink RX2 88 yNSE :: Cond.initialized yNSE :: yN_atS RX2 92, vx_ot w = true := by decide +kernel
theorem yhat {args : Array Value} {s : State} {L Ts : List Cond} (hts : ∀ w ∈ Ts, w.before args s = true) (h1 : ∀ w ∈ L.filter goodWord, w ∈ Ts) (h2 : ∀ w ∈ L.filter (fun w => !goodWord w), w ∈ yNW) (hE : ∀ w ∈ yNW, va_Nw w s) : ∀ w ∈ L, w.before args s = true :=
  vx_hat (fun w hw => hts w (h1 w hw)) h2 (fun w hw => va_Nw.use (ykind_tab (yNW_kind w hw)) (hE w hw))
theorem yN_no : ((Bundle.ownAtoms RX2 92 yNSE yRE).map yN_fix).filter vx_no = yN_atS RX2 92 := by decide +kernel
