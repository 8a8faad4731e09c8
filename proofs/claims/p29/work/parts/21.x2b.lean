set_option maxHeartbeats 4000000 in
set_option maxRecDepth 100000 in
theorem c_X2_post (l : Launch) (hl9 : l.stackTraces = false) (G : va_G) (k : Nat → ClassId) (h : Nat) (a : Nat → Nat) (c : Nat → Nat) (C : Nat → Nat → Int32) (n0 : Nat) (M : Nat → Nat → Int32) (ds : Nat) (n1 : Nat) (d : Nat) (sz : Nat) (q key kd x v dl : Int32) (hND : va_D (fun _ => True) (W2 k h a c C n0 M ds n1 d)) (hn : n0 ≤ 8) (hn1 : n1 ≤ 80) : vx_Met l yX2_post wsX2_post ({ frames := 7, cells := 2, slots := 12, locals := 110 }) (va_Pc [.ref h, .int q, .int key, .int kd, .int x, .int v, .int dl] (yEs G (yT k) (W2 k h a c C n0 M ds n1 d) sz)) (va_Qi (fun (r : Int32) (_ : Unit) => (o_post q key kd x v dl n0 M n1 d).1 = 0 ∧ r = (o_post q key kd x v dl n0 M n1 d).2.1) (fun _ τ => va_P G vwCl (W2 k h a c C n0 ((o_post q key kd x v dl n0 M n1 d).2.2.1) ds ((o_post q key kd x v dl n0 M n1 d).2.2.2) d) τ.heap) (va_A (W2 k h a c C n0 M ds n1 d) sz)) (yX (fun E => (E = "java/lang/IllegalArgumentException" ∧ (o_post q key kd x v dl n0 M n1 d).1 = 1) ∨ (E = "java/lang/IllegalStateException" ∧ (o_post q key kd x v dl n0 M n1 d).1 = 2))) 2 12 (va_A (W2 k h a c C n0 M ds n1 d) sz) := by
  refine vx_ofW (cc := cX2_post) (maxL := 9) (ret := (some .int)) (by decide) rfl ?_
  intro p e s m args below meth c_ s₁ B hml ht hv
  obtain ⟨rfl, hsz, hP, hK, hE⟩ := hv
  have hE : yEV0 s s.heap := hE
  have hx := B.exec
  have hb := B.bytes
  have hr := B.returns
  have hts := atoms_spec (ws := wsX2_post) B.pre
  have hown : s.vm.findClass RX2 = some m.cls := findClass_of_methodNamed B.named
  have hlocks := B.notSynchronized
  have hsz0 : (8 : Nat) < 2 ^ 31 := by decide
  have hsz1 : (80 : Nat) < 2 ^ 31 := by decide
  subst hsz
  have hD := hND.self (sz := s.heap.size)
  generalize hAe : va_A (W2 k h a c C n0 M ds n1 d) s.heap.size = A at hD ⊢
  have hA : ∀ q : Nat, s.heap.size ≤ q → A q := fun q h => by rw [← hAe]; exact Or.inr h
  have hS : va_S A s.heap s.heap [] := va_S.rf
  have hND0 : va_D (fun _ => True) (W0 k a C n0) := hND.sub [1, 2, 3, 4, 5, 6, 7] (by decide) rfl
  have hND1 : va_D (fun _ => True) (W1 k c M ds n1) := hND.sub [8, 9, 10, 11, 12, 13, 14, 15, 16, 17, 18, 19] (by decide) rfl
  have hinX1 : ∀ w ∈ u_ws RX1 TX1 13, w ∈ wsX2_post := by decide +kernel
  have hinX2 : ∀ w ∈ u_ws RX2 TX2 3, w ∈ wsX2_post := by decide +kernel
  have fl19 := hts (.fieldLink RX2 19 "DunningDesk" "messages" "LDunningDesk$MessageBook;") (by decide +kernel)
  have fl23 := hts (.fieldLink RX2 23 "DunningDesk" "today" "I") (by decide +kernel)
  have fl10 := hts (.fieldLink RX2 10 "DunningDesk" "cases" "LDunningDesk$CaseBook;") (by decide +kernel)
  have hl := lv_entry [.ref h, .int q, .int key, .int kd, .int x, .int v, .int dl] (n := 9) (Nat.le_of_ble_eq_true rfl)
  rw [lg_entry_eq]
  generalize (lg_sl [.ref h, .int q, .int key, .int kd, .int x, .int v, .int dl] ++ List.replicate (9 - (lg_sl [.ref h, .int q, .int key, .int kd, .int x, .int v, .int dl]).length) Slot.unset).toArray = ls at hl ⊢
  have hl : lv_has ls 9 [(0, .ref h), (1, .int q), (2, .int key), (3, .int kd), (4, .int x), (5, .int v), (6, .int dl)] := hl
  refine lv_iload_n hx hb dX2_post_0 rfl (lv_at hl 1 rfl) ?_
  refine y_xvS (As := [.int q]) (rest := []) ⟨hx, hb, hml, hown, hts⟩ (c_X2_requireQueue l hl9 q ) (va_cwS 1 hts gX2_post_X2_requireQueue rfl rfl rfl (by decide +kernel) ⟨Nat.le_of_ble_eq_true rfl, Nat.le_of_ble_eq_true rfl⟩) hE rfl hl.1 rfl (Nat.le_of_ble_eq_true rfl) dX2_post_1 ⟨Nat.le_of_ble_eq_true rfl, Nat.le_of_ble_eq_true rfl⟩ ht hlocks (fun E h9 => Or.inl ⟨h9.1, by unfold o_post; rw [if_neg (fun h => h9.2 h.1)]⟩) ⟨Nat.le_of_ble_eq_true rfl, Nat.le_of_ble_eq_true rfl⟩ (fun hr9 => ?_)
  have c1 := hr9
  refine lv_iload_n hx hb dX2_post_4 rfl (lv_at hl 3 rfl) ?_
  refine lv_bipush (v := 112) hx hb dX2_post_5 (by decide) ?_
  refine lv_icmp_eq (tgt := 26) hx hb dX2_post_7 (by decide) (fun c7 => ?_) (fun c7 => ?_)
  · skip
    refine lv_iload_n hx hb dX2_post_26 rfl (lv_at hl 2 rfl) ?_
    refine lv_iconst (v := 0) hx hb dX2_post_27 (by decide) ?_
    refine lv_sipush (v := 999) hx hb dX2_post_28 (by decide) ?_
    refine y_roS (As := [.int key, .int 0, .int 999]) (rest := []) ⟨hx, hb, hml, hown, hts⟩ (c_X2_isWithin l key 0 999 ) (va_cwS 3 hts gX2_post_X2_isWithin rfl rfl rfl (by decide +kernel) ⟨Nat.le_of_ble_eq_true rfl, Nat.le_of_ble_eq_true rfl⟩) rfl hl.1 rfl (Nat.le_of_ble_eq_true rfl) dX2_post_31 ⟨Nat.le_of_ble_eq_true rfl, Nat.le_of_ble_eq_true rfl⟩ (fun r hr9 => ?_)
    subst hr9
    refine lv_if_eq (tgt := 71) hx hb dX2_post_34 (by decide) (fun c34 => ?_) (fun c34 => ?_)
    · replace c34 : ¬ (rg 0 999 key) := b2_of0 c34
      exact y_thr (rest := []) (ik := 31) (is := 110) (ic := 35) (cls := "java/lang/IllegalArgumentException") (text := "a number is out of range") hx hb hl9 hts hE hown (by decide) (by decide +kernel) (by decide +kernel) (by decide +kernel) (by decide +kernel) yat_IAE yot_IAE (hl.1.trans hml.symm) dX2_post_71 dX2_post_74 dX2_post_75 dX2_post_77 dX2_post_80 ht ⟨Nat.le_of_ble_eq_true rfl, Nat.le_of_ble_eq_true rfl, Nat.le_of_ble_eq_true rfl, Nat.le_of_ble_eq_true rfl⟩ hlocks (by exact Or.inl ⟨rfl, by unfold o_post; rw [if_neg (fun h9 => by first | exact c34 h9.2.1 | exact h9.2.2.1.elim c7 c13 | exact c45 h9.2.2.2.1 | exact c57 h9.2.2.2.2.1 | exact c68 h9.2.2.2.2.2)]⟩) ⟨Nat.le_of_ble_eq_true rfl, Nat.le_of_ble_eq_true rfl⟩
    · replace c34 : rg 0 999 key := b2_of1 c34
      refine lv_iload hx hb dX2_post_37 (lv_at hl 4 rfl) ?_
      refine lv_iconst (v := 0) hx hb dX2_post_39 (by decide) ?_
      refine lv_bipush (v := 7) hx hb dX2_post_40 (by decide) ?_
      refine y_roS (As := [.int x, .int 0, .int 7]) (rest := []) ⟨hx, hb, hml, hown, hts⟩ (c_X2_isWithin l x 0 7 ) (va_cwS 3 hts gX2_post_X2_isWithin rfl rfl rfl (by decide +kernel) ⟨Nat.le_of_ble_eq_true rfl, Nat.le_of_ble_eq_true rfl⟩) rfl hl.1 rfl (Nat.le_of_ble_eq_true rfl) dX2_post_42 ⟨Nat.le_of_ble_eq_true rfl, Nat.le_of_ble_eq_true rfl⟩ (fun r hr9 => ?_)
      subst hr9
      refine lv_if_eq (tgt := 71) hx hb dX2_post_45 (by decide) (fun c45 => ?_) (fun c45 => ?_)
      · replace c45 : ¬ (rg 0 7 x) := b2_of0 c45
        exact y_thr (rest := []) (ik := 31) (is := 110) (ic := 35) (cls := "java/lang/IllegalArgumentException") (text := "a number is out of range") hx hb hl9 hts hE hown (by decide) (by decide +kernel) (by decide +kernel) (by decide +kernel) (by decide +kernel) yat_IAE yot_IAE (hl.1.trans hml.symm) dX2_post_71 dX2_post_74 dX2_post_75 dX2_post_77 dX2_post_80 ht ⟨Nat.le_of_ble_eq_true rfl, Nat.le_of_ble_eq_true rfl, Nat.le_of_ble_eq_true rfl, Nat.le_of_ble_eq_true rfl⟩ hlocks (by exact Or.inl ⟨rfl, by unfold o_post; rw [if_neg (fun h9 => by first | exact c34 h9.2.1 | exact h9.2.2.1.elim c7 c13 | exact c45 h9.2.2.2.1 | exact c57 h9.2.2.2.2.1 | exact c68 h9.2.2.2.2.2)]⟩) ⟨Nat.le_of_ble_eq_true rfl, Nat.le_of_ble_eq_true rfl⟩
      · replace c45 : rg 0 7 x := b2_of1 c45
        refine lv_iload hx hb dX2_post_48 (lv_at hl 5 rfl) ?_
        refine lv_iconst (v := 0) hx hb dX2_post_50 (by decide) ?_
        refine lv_sipush (v := 9999) hx hb dX2_post_51 (by decide) ?_
        refine y_roS (As := [.int v, .int 0, .int 9999]) (rest := []) ⟨hx, hb, hml, hown, hts⟩ (c_X2_isWithin l v 0 9999 ) (va_cwS 3 hts gX2_post_X2_isWithin rfl rfl rfl (by decide +kernel) ⟨Nat.le_of_ble_eq_true rfl, Nat.le_of_ble_eq_true rfl⟩) rfl hl.1 rfl (Nat.le_of_ble_eq_true rfl) dX2_post_54 ⟨Nat.le_of_ble_eq_true rfl, Nat.le_of_ble_eq_true rfl⟩ (fun r hr9 => ?_)
        subst hr9
        refine lv_if_eq (tgt := 71) hx hb dX2_post_57 (by decide) (fun c57 => ?_) (fun c57 => ?_)
        · replace c57 : ¬ (rg 0 9999 v) := b2_of0 c57
          exact y_thr (rest := []) (ik := 31) (is := 110) (ic := 35) (cls := "java/lang/IllegalArgumentException") (text := "a number is out of range") hx hb hl9 hts hE hown (by decide) (by decide +kernel) (by decide +kernel) (by decide +kernel) (by decide +kernel) yat_IAE yot_IAE (hl.1.trans hml.symm) dX2_post_71 dX2_post_74 dX2_post_75 dX2_post_77 dX2_post_80 ht ⟨Nat.le_of_ble_eq_true rfl, Nat.le_of_ble_eq_true rfl, Nat.le_of_ble_eq_true rfl, Nat.le_of_ble_eq_true rfl⟩ hlocks (by exact Or.inl ⟨rfl, by unfold o_post; rw [if_neg (fun h9 => by first | exact c34 h9.2.1 | exact h9.2.2.1.elim c7 c13 | exact c45 h9.2.2.2.1 | exact c57 h9.2.2.2.2.1 | exact c68 h9.2.2.2.2.2)]⟩) ⟨Nat.le_of_ble_eq_true rfl, Nat.le_of_ble_eq_true rfl⟩
        · replace c57 : rg 0 9999 v := b2_of1 c57
          refine lv_iload hx hb dX2_post_60 (lv_at hl 6 rfl) ?_
          refine lv_iconst (v := 0) hx hb dX2_post_62 (by decide) ?_
          refine lv_bipush (v := 30) hx hb dX2_post_63 (by decide) ?_
          refine y_roS (As := [.int dl, .int 0, .int 30]) (rest := []) ⟨hx, hb, hml, hown, hts⟩ (c_X2_isWithin l dl 0 30 ) (va_cwS 3 hts gX2_post_X2_isWithin rfl rfl rfl (by decide +kernel) ⟨Nat.le_of_ble_eq_true rfl, Nat.le_of_ble_eq_true rfl⟩) rfl hl.1 rfl (Nat.le_of_ble_eq_true rfl) dX2_post_65 ⟨Nat.le_of_ble_eq_true rfl, Nat.le_of_ble_eq_true rfl⟩ (fun r hr9 => ?_)
          subst hr9
          refine lv_if_ne (tgt := 81) hx hb dX2_post_68 (by decide) (fun c68 => ?_) (fun c68 => ?_)
          · replace c68 : rg 0 30 dl := b2_of1 c68
            refine lv_aload_n hx hb dX2_post_81 rfl (lv_at hl 0 rfl) ?_
            refine va_get (D := G) (ci := 4) (v := .ref (c 0)) (C := RX2) (T := TX2) (N := 3) hx hb hts hinX2 hown hK hP 0 rfl rfl 1 (by decide) fl19 (fun _ h9 => h9) rfl dX2_post_82 ?_
            refine lv_iload_n hx hb dX2_post_85 rfl (lv_at hl 2 rfl) ?_
            refine y_roVN (As := [.int key]) (rest := []) ⟨hx, hb, hml, hown, hts⟩ (c_X1_find l G k c M ds n1 key (by omega)) ⟨va_cnB (host := "DunningDesk") 1 hts gX2_post_X1_find_n112 rfl rfl rfl (hE.1 (.methodLinkNest RX2 112 yX1_find "DunningDesk") (by decide +kernel)) (hts (.initialized RX1) (by decide +kernel)) (by decide +kernel) ⟨Nat.le_of_ble_eq_true rfl, Nat.le_of_ble_eq_true rfl⟩, hts (.instanceMethod yX1_find) (by decide +kernel), hts (.selects RX1 yX1_find yX1_find) (by decide +kernel)⟩ hK (P21 hP) (va_recv hK (P21 hP) (ci := 3) (q0 := 0) rfl rfl) rfl hl.1 rfl (Nat.le_of_ble_eq_true rfl) dX2_post_86 ⟨Nat.le_of_ble_eq_true rfl, Nat.le_of_ble_eq_true rfl⟩ (fun r hr9 => ?_)
            subst hr9
            refine lv_istore (lv' := [(7, .int (oI (fnd (M 1) key n1 0))), (0, .ref h), (1, .int q), (2, .int key), (3, .int kd), (4, .int x), (5, .int v), (6, .int dl)]) hx hb dX2_post_89 hl (by decide) rfl (fun ls hl => ?_)
            refine lv_iload hx hb dX2_post_91 (lv_at hl 0 rfl) ?_
            refine lv_iconst (v := (-1)) hx hb dX2_post_93 (by decide) ?_
            refine lv_icmp_eq (tgt := 100) hx hb dX2_post_94 (by decide) (fun c94 => ?_) (fun c94 => ?_)
            · replace c94 : fnd (M 1) key n1 0 = none := oI_none (fun z h => by have := fnd_lt h; omega) c94
              refine lv_aload_n hx hb dX2_post_100 rfl (lv_at hl 1 rfl) ?_
              refine va_get (D := G) (ci := 4) (v := .ref (c 0)) (C := RX2) (T := TX2) (N := 3) hx hb hts hinX2 hown hK hP 0 rfl rfl 1 (by decide) fl19 (fun _ h9 => h9) rfl dX2_post_101 ?_
              refine y_roVN (As := []) (rest := []) ⟨hx, hb, hml, hown, hts⟩ (c_X1_isFull l G k c M ds n1  (by omega)) ⟨va_cnB (host := "DunningDesk") 0 hts gX2_post_X1_isFull_n115 rfl rfl rfl (hE.1 (.methodLinkNest RX2 115 yX1_isFull "DunningDesk") (by decide +kernel)) (hts (.initialized RX1) (by decide +kernel)) (by decide +kernel) ⟨Nat.le_of_ble_eq_true rfl, Nat.le_of_ble_eq_true rfl⟩, hts (.instanceMethod yX1_isFull) (by decide +kernel), hts (.selects RX1 yX1_isFull yX1_isFull) (by decide +kernel)⟩ hK (P21 hP) (va_recv hK (P21 hP) (ci := 3) (q0 := 0) rfl rfl) rfl hl.1 rfl (Nat.le_of_ble_eq_true rfl) dX2_post_104 ⟨Nat.le_of_ble_eq_true rfl, Nat.le_of_ble_eq_true rfl⟩ (fun r hr9 => ?_)
              subst hr9
              refine lv_if_eq (tgt := 120) hx hb dX2_post_107 (by decide) (fun c107 => ?_) (fun c107 => ?_)
              · replace c107 : ¬ n1 = 80 := fun h9 => b2_of0 c107 (by omega)
                refine lv_aload_n hx hb dX2_post_120 rfl (lv_at hl 1 rfl) ?_
                refine va_get (D := G) (ci := 4) (v := .ref (c 0)) (C := RX2) (T := TX2) (N := 3) hx hb hts hinX2 hown hK hP 0 rfl rfl 1 (by decide) fl19 (fun _ h9 => h9) rfl dX2_post_121 ?_
                refine lv_iload_n hx hb dX2_post_124 rfl (lv_at hl 2 rfl) ?_
                refine lv_iload_n hx hb dX2_post_125 rfl (lv_at hl 3 rfl) ?_
                refine lv_iload_n hx hb dX2_post_126 rfl (lv_at hl 4 rfl) ?_
                refine lv_iload hx hb dX2_post_127 (lv_at hl 5 rfl) ?_
                refine lv_iload hx hb dX2_post_129 (lv_at hl 6 rfl) ?_
                refine lv_aload_n hx hb dX2_post_131 rfl (lv_at hl 1 rfl) ?_
                refine va_get (D := G) (ci := 4) (v := .int (nI d)) (C := RX2) (T := TX2) (N := 3) hx hb hts hinX2 hown hK hP 0 rfl rfl 2 (by decide) fl23 (fun _ h9 => h9) rfl dX2_post_132 ?_
                refine lv_iload hx hb dX2_post_135 (lv_at hl 7 rfl) ?_
                refine lv_iadd hx hb dX2_post_137 ?_
                have hfr9 : ∀ q, va_A (W1 k c M ds n1) _ q → A q := va_free hD hS hA [8, 9, 10, 11, 12, 13, 14, 15, 16, 17, 18, 19] rfl
                refine y_rwVN (w := W1 k c M ds n1) (w' := fun (_ : Unit) => W1 k c (madd M n1 q key kd x v ((nI d) + dl)) ds (n1 + 1)) (As := [.int q, .int key, .int kd, .int x, .int v, .int ((nI d) + dl)]) (rest := []) ⟨hx, hb, hml, hown, hts⟩ (c_X1_add l G k c M ds n1 _ q key kd x v ((nI d) + dl) (yD hND1 rfl) (by omega) (by first | (rw [c7]; decide) | (rw [c13]; decide))) ⟨va_cnB (host := "DunningDesk") 6 hts gX2_post_X1_add_n118 rfl rfl rfl (hE.1 (.methodLinkNest RX2 118 yX1_add "DunningDesk") (by decide +kernel)) (hts (.initialized RX1) (by decide +kernel)) (by decide +kernel) ⟨Nat.le_of_ble_eq_true rfl, Nat.le_of_ble_eq_true rfl⟩, hts (.instanceMethod yX1_add) (by decide +kernel), hts (.selects RX1 yX1_add yX1_add) (by decide +kernel)⟩ hK (P21 hP) (va_recv hK (P21 hP) (ci := 3) (q0 := 0) rfl rfl) hS hfr9 rfl hl.1 rfl (Nat.le_of_ble_eq_true rfl) dX2_post_138 ⟨Nat.le_of_ble_eq_true rfl, Nat.le_of_ble_eq_true rfl⟩ (fun r u9 H1 locs1 hr9 hP9 hz9 hk9 hS9 => ?_)
                have hP9 : va_P G vwCl (W2 k h a c C n0 (madd M n1 q key kd x v ((nI d) + dl)) ds (n1 + 1) d) H1 := J21 hP hD hfr9 hk9 hP9
                have hD9 : va_D A (W2 k h a c C n0 (madd M n1 q key kd x v ((nI d) + dl)) ds (n1 + 1) d) := yD hD rfl
                clear hP hD hS hfr9 hz9 hk9
                have hP := hP9
                have hD := hD9
                have hS := hS9
                clear hP9 hD9 hS9
                subst hr9
                refine lv_istore (lv' := [(8, .int (nI n1)), (7, .int (oI (fnd (M 1) key n1 0))), (0, .ref h), (1, .int q), (2, .int key), (3, .int kd), (4, .int x), (5, .int v), (6, .int dl)]) hx hb dX2_post_141 hl (by decide) rfl (fun ls hl => ?_)
                refine lv_aload_n hx hb dX2_post_143 rfl (lv_at hl 2 rfl) ?_
                refine va_get (D := G) (ci := 4) (v := .ref (a 0)) (C := RX2) (T := TX2) (N := 3) hx hb hts hinX2 hown hK hP 0 rfl rfl 0 (by decide) fl10 (fun _ h9 => h9) rfl dX2_post_144 ?_
                refine lv_iload hx hb dX2_post_147 (lv_at hl 6 rfl) ?_
                refine y_roVN (As := [.int x]) (rest := []) ⟨hx, hb, hml, hown, hts⟩ (c_X0_contains l G k a C n0 x (by omega)) ⟨va_cnB (host := "DunningDesk") 1 hts gX2_post_X0_contains_n121 rfl rfl rfl (hE.1 (.methodLinkNest RX2 121 yX0_contains "DunningDesk") (by decide +kernel)) (hts (.initialized RX0) (by decide +kernel)) (by decide +kernel) ⟨Nat.le_of_ble_eq_true rfl, Nat.le_of_ble_eq_true rfl⟩, hts (.instanceMethod yX0_contains) (by decide +kernel), hts (.selects RX0 yX0_contains yX0_contains) (by decide +kernel)⟩ hK (P20 hP) (va_recv hK (P20 hP) (ci := 2) (q0 := 0) rfl rfl) rfl hl.1 rfl (Nat.le_of_ble_eq_true rfl) dX2_post_149 ⟨Nat.le_of_ble_eq_true rfl, Nat.le_of_ble_eq_true rfl⟩ (fun r hr9 => ?_)
                subst hr9
                refine lv_if_ne (tgt := 167) hx hb dX2_post_152 (by decide) (fun c152 => ?_) (fun c152 => ?_)
                · replace c152 : inR x n0 := b2_of1 c152
                  refine lv_iload hx hb dX2_post_167 (lv_at hl 0 rfl) ?_
                  refine W.widen (k := 2) (n := 12) (by decide) (by decide) ?_
                  have hPf : va_P G vwCl (W2 k h a c C n0 ((o_post q key kd x v dl n0 M n1 d).2.2.1) ds ((o_post q key kd x v dl n0 M n1 d).2.2.2) d) H1 := by unfold o_post; rw [if_pos (show okp q key kd x v dl from ⟨c1, c34, by first | exact Or.inl c7 | exact Or.inr c13, c45, c57, c68⟩)]; rw [if_pos c94, if_neg c107]; first | (rw [if_pos c152.2]; exact hP) | (rw [if_neg (fun h => c152 ⟨Int32.not_lt.mpr c45.1, h⟩)]; rw [show w2 (madd M n1 q key kd x v (nI d + dl)) 5 n1 104 = mad2 M n1 q key kd x v (nI d + dl) 104 from w2_w2] at hP; exact hP)
                  exact vx_ret (W.iret (v := (nI n1)) hx hb hr (fun τ hτ hW => ⟨⟨_, (), rfl, (by unfold o_post; rw [if_pos (show okp q key kd x v dl from ⟨c1, c34, by first | exact Or.inl c7 | exact Or.inr c13, c45, c57, c68⟩)]; rw [if_pos c94, if_neg c107]; exact ⟨rfl, rfl⟩), yPt hPf hτ⟩, hS.F hτ⟩) hS.2.2 dX2_post_169)
                · replace c152 : ¬ (inR x n0) := b2_of0 c152
                  refine lv_aload_n hx hb dX2_post_155 rfl (lv_at hl 2 rfl) ?_
                  refine va_get (D := G) (ci := 4) (v := .ref (c 0)) (C := RX2) (T := TX2) (N := 3) hx hb hts hinX2 hown hK hP 0 rfl rfl 1 (by decide) fl19 (fun _ h9 => h9) rfl dX2_post_156 ?_
                  refine va_getN (D := G) (ci := 3) (v := .ref (c 6)) (C := RX1) (T := TX1) (N := 13) (host := "DunningDesk") hx hb hts hinX1 hown hK hP 8 rfl rfl 5 (by decide) (va_Nw.use rfl (hE.1 (.fieldLinkNest RX2 124 "DunningDesk$MessageBook" "states" "[C" "DunningDesk") (by decide +kernel))) (fun _ h9 => h9) rfl dX2_post_159 ?_
                  refine lv_iload hx hb dX2_post_162 (lv_at hl 0 rfl) ?_
                  refine lv_bipush (v := 104) hx hb dX2_post_164 (by decide) ?_
                  refine y_cast (ws' := W2 k h a c C n0 (w2 (madd M n1 q key kd x v ((nI d) + dl)) 5 n1 104) ds (n1 + 1) d) (j := n1) (x := 104) hx hb hK hP hD hS 14 2 rfl rfl (by omega) hsz1 (by decide) rfl dX2_post_166 (fun H locs hP hD hS => ?_)
                  refine lv_iload hx hb dX2_post_167 (lv_at hl 0 rfl) ?_
                  refine W.widen (k := 2) (n := 12) (by decide) (by decide) ?_
                  have hPf : va_P G vwCl (W2 k h a c C n0 ((o_post q key kd x v dl n0 M n1 d).2.2.1) ds ((o_post q key kd x v dl n0 M n1 d).2.2.2) d) H := by unfold o_post; rw [if_pos (show okp q key kd x v dl from ⟨c1, c34, by first | exact Or.inl c7 | exact Or.inr c13, c45, c57, c68⟩)]; rw [if_pos c94, if_neg c107]; first | (rw [if_pos c152.2]; exact hP) | (rw [if_neg (fun h => c152 ⟨Int32.not_lt.mpr c45.1, h⟩)]; rw [show w2 (madd M n1 q key kd x v (nI d + dl)) 5 n1 104 = mad2 M n1 q key kd x v (nI d + dl) 104 from w2_w2] at hP; exact hP)
                  exact vx_ret (W.iret (v := (nI n1)) hx hb hr (fun τ hτ hW => ⟨⟨_, (), rfl, (by unfold o_post; rw [if_pos (show okp q key kd x v dl from ⟨c1, c34, by first | exact Or.inl c7 | exact Or.inr c13, c45, c57, c68⟩)]; rw [if_pos c94, if_neg c107]; exact ⟨rfl, rfl⟩), yPt hPf hτ⟩, hS.F hτ⟩) hS.2.2 dX2_post_169)
              · replace c107 : n1 = 80 := by have := b2_of1 c107; omega
                exact y_thr (rest := []) (ik := 42) (is := 116) (ic := 46) (cls := "java/lang/IllegalStateException") (text := "there are 80 messages") hx hb hl9 hts hE hown (by decide) (by decide +kernel) (by decide +kernel) (by decide +kernel) (by decide +kernel) yat_ISE yot_ISE (hl.1.trans hml.symm) dX2_post_110 dX2_post_113 dX2_post_114 dX2_post_116 dX2_post_119 ht ⟨Nat.le_of_ble_eq_true rfl, Nat.le_of_ble_eq_true rfl, Nat.le_of_ble_eq_true rfl, Nat.le_of_ble_eq_true rfl⟩ hlocks (by exact Or.inr ⟨rfl, by unfold o_post; rw [if_pos (show okp q key kd x v dl from ⟨c1, c34, by first | exact Or.inl c7 | exact Or.inr c13, c45, c57, c68⟩)]; rw [if_pos c94, if_pos c107]⟩) ⟨Nat.le_of_ble_eq_true rfl, Nat.le_of_ble_eq_true rfl⟩
            · replace c94 : ¬ fnd (M 1) key n1 0 = none := fun h9 => c94 (by rw [h9]; rfl)
              refine lv_iload hx hb dX2_post_97 (lv_at hl 0 rfl) ?_
              refine W.widen (k := 2) (n := 12) (by decide) (by decide) ?_
              have hPf : va_P G vwCl (W2 k h a c C n0 ((o_post q key kd x v dl n0 M n1 d).2.2.1) ds ((o_post q key kd x v dl n0 M n1 d).2.2.2) d) s.heap := by unfold o_post; rw [if_pos (show okp q key kd x v dl from ⟨c1, c34, by first | exact Or.inl c7 | exact Or.inr c13, c45, c57, c68⟩)]; rw [if_neg c94]; exact hP
              exact vx_ret (W.iret (v := (oI (fnd (M 1) key n1 0))) hx hb hr (fun τ hτ hW => ⟨⟨_, (), rfl, (by unfold o_post; rw [if_pos (show okp q key kd x v dl from ⟨c1, c34, by first | exact Or.inl c7 | exact Or.inr c13, c45, c57, c68⟩)]; rw [if_neg c94]; exact ⟨rfl, rfl⟩), yPt hPf hτ⟩, hS.F hτ⟩) hS.2.2 dX2_post_99)
          · replace c68 : ¬ (rg 0 30 dl) := b2_of0 c68
            exact y_thr (rest := []) (ik := 31) (is := 110) (ic := 35) (cls := "java/lang/IllegalArgumentException") (text := "a number is out of range") hx hb hl9 hts hE hown (by decide) (by decide +kernel) (by decide +kernel) (by decide +kernel) (by decide +kernel) yat_IAE yot_IAE (hl.1.trans hml.symm) dX2_post_71 dX2_post_74 dX2_post_75 dX2_post_77 dX2_post_80 ht ⟨Nat.le_of_ble_eq_true rfl, Nat.le_of_ble_eq_true rfl, Nat.le_of_ble_eq_true rfl, Nat.le_of_ble_eq_true rfl⟩ hlocks (by exact Or.inl ⟨rfl, by unfold o_post; rw [if_neg (fun h9 => by first | exact c34 h9.2.1 | exact h9.2.2.1.elim c7 c13 | exact c45 h9.2.2.2.1 | exact c57 h9.2.2.2.2.1 | exact c68 h9.2.2.2.2.2)]⟩) ⟨Nat.le_of_ble_eq_true rfl, Nat.le_of_ble_eq_true rfl⟩
  · skip
    refine lv_iload_n hx hb dX2_post_10 rfl (lv_at hl 3 rfl) ?_
    refine lv_bipush (v := 110) hx hb dX2_post_11 (by decide) ?_
    refine lv_icmp_eq (tgt := 26) hx hb dX2_post_13 (by decide) (fun c13 => ?_) (fun c13 => ?_)
    · skip
      refine lv_iload_n hx hb dX2_post_26 rfl (lv_at hl 2 rfl) ?_
      refine lv_iconst (v := 0) hx hb dX2_post_27 (by decide) ?_
      refine lv_sipush (v := 999) hx hb dX2_post_28 (by decide) ?_
      refine y_roS (As := [.int key, .int 0, .int 999]) (rest := []) ⟨hx, hb, hml, hown, hts⟩ (c_X2_isWithin l key 0 999 ) (va_cwS 3 hts gX2_post_X2_isWithin rfl rfl rfl (by decide +kernel) ⟨Nat.le_of_ble_eq_true rfl, Nat.le_of_ble_eq_true rfl⟩) rfl hl.1 rfl (Nat.le_of_ble_eq_true rfl) dX2_post_31 ⟨Nat.le_of_ble_eq_true rfl, Nat.le_of_ble_eq_true rfl⟩ (fun r hr9 => ?_)
      subst hr9
      refine lv_if_eq (tgt := 71) hx hb dX2_post_34 (by decide) (fun c34 => ?_) (fun c34 => ?_)
      · replace c34 : ¬ (rg 0 999 key) := b2_of0 c34
        exact y_thr (rest := []) (ik := 31) (is := 110) (ic := 35) (cls := "java/lang/IllegalArgumentException") (text := "a number is out of range") hx hb hl9 hts hE hown (by decide) (by decide +kernel) (by decide +kernel) (by decide +kernel) (by decide +kernel) yat_IAE yot_IAE (hl.1.trans hml.symm) dX2_post_71 dX2_post_74 dX2_post_75 dX2_post_77 dX2_post_80 ht ⟨Nat.le_of_ble_eq_true rfl, Nat.le_of_ble_eq_true rfl, Nat.le_of_ble_eq_true rfl, Nat.le_of_ble_eq_true rfl⟩ hlocks (by exact Or.inl ⟨rfl, by unfold o_post; rw [if_neg (fun h9 => by first | exact c34 h9.2.1 | exact h9.2.2.1.elim c7 c13 | exact c45 h9.2.2.2.1 | exact c57 h9.2.2.2.2.1 | exact c68 h9.2.2.2.2.2)]⟩) ⟨Nat.le_of_ble_eq_true rfl, Nat.le_of_ble_eq_true rfl⟩
      · replace c34 : rg 0 999 key := b2_of1 c34
        refine lv_iload hx hb dX2_post_37 (lv_at hl 4 rfl) ?_
        refine lv_iconst (v := 0) hx hb dX2_post_39 (by decide) ?_
        refine lv_bipush (v := 7) hx hb dX2_post_40 (by decide) ?_
        refine y_roS (As := [.int x, .int 0, .int 7]) (rest := []) ⟨hx, hb, hml, hown, hts⟩ (c_X2_isWithin l x 0 7 ) (va_cwS 3 hts gX2_post_X2_isWithin rfl rfl rfl (by decide +kernel) ⟨Nat.le_of_ble_eq_true rfl, Nat.le_of_ble_eq_true rfl⟩) rfl hl.1 rfl (Nat.le_of_ble_eq_true rfl) dX2_post_42 ⟨Nat.le_of_ble_eq_true rfl, Nat.le_of_ble_eq_true rfl⟩ (fun r hr9 => ?_)
        subst hr9
        refine lv_if_eq (tgt := 71) hx hb dX2_post_45 (by decide) (fun c45 => ?_) (fun c45 => ?_)
        · replace c45 : ¬ (rg 0 7 x) := b2_of0 c45
          exact y_thr (rest := []) (ik := 31) (is := 110) (ic := 35) (cls := "java/lang/IllegalArgumentException") (text := "a number is out of range") hx hb hl9 hts hE hown (by decide) (by decide +kernel) (by decide +kernel) (by decide +kernel) (by decide +kernel) yat_IAE yot_IAE (hl.1.trans hml.symm) dX2_post_71 dX2_post_74 dX2_post_75 dX2_post_77 dX2_post_80 ht ⟨Nat.le_of_ble_eq_true rfl, Nat.le_of_ble_eq_true rfl, Nat.le_of_ble_eq_true rfl, Nat.le_of_ble_eq_true rfl⟩ hlocks (by exact Or.inl ⟨rfl, by unfold o_post; rw [if_neg (fun h9 => by first | exact c34 h9.2.1 | exact h9.2.2.1.elim c7 c13 | exact c45 h9.2.2.2.1 | exact c57 h9.2.2.2.2.1 | exact c68 h9.2.2.2.2.2)]⟩) ⟨Nat.le_of_ble_eq_true rfl, Nat.le_of_ble_eq_true rfl⟩
        · replace c45 : rg 0 7 x := b2_of1 c45
          refine lv_iload hx hb dX2_post_48 (lv_at hl 5 rfl) ?_
          refine lv_iconst (v := 0) hx hb dX2_post_50 (by decide) ?_
          refine lv_sipush (v := 9999) hx hb dX2_post_51 (by decide) ?_
          refine y_roS (As := [.int v, .int 0, .int 9999]) (rest := []) ⟨hx, hb, hml, hown, hts⟩ (c_X2_isWithin l v 0 9999 ) (va_cwS 3 hts gX2_post_X2_isWithin rfl rfl rfl (by decide +kernel) ⟨Nat.le_of_ble_eq_true rfl, Nat.le_of_ble_eq_true rfl⟩) rfl hl.1 rfl (Nat.le_of_ble_eq_true rfl) dX2_post_54 ⟨Nat.le_of_ble_eq_true rfl, Nat.le_of_ble_eq_true rfl⟩ (fun r hr9 => ?_)
          subst hr9
          refine lv_if_eq (tgt := 71) hx hb dX2_post_57 (by decide) (fun c57 => ?_) (fun c57 => ?_)
          · replace c57 : ¬ (rg 0 9999 v) := b2_of0 c57
            exact y_thr (rest := []) (ik := 31) (is := 110) (ic := 35) (cls := "java/lang/IllegalArgumentException") (text := "a number is out of range") hx hb hl9 hts hE hown (by decide) (by decide +kernel) (by decide +kernel) (by decide +kernel) (by decide +kernel) yat_IAE yot_IAE (hl.1.trans hml.symm) dX2_post_71 dX2_post_74 dX2_post_75 dX2_post_77 dX2_post_80 ht ⟨Nat.le_of_ble_eq_true rfl, Nat.le_of_ble_eq_true rfl, Nat.le_of_ble_eq_true rfl, Nat.le_of_ble_eq_true rfl⟩ hlocks (by exact Or.inl ⟨rfl, by unfold o_post; rw [if_neg (fun h9 => by first | exact c34 h9.2.1 | exact h9.2.2.1.elim c7 c13 | exact c45 h9.2.2.2.1 | exact c57 h9.2.2.2.2.1 | exact c68 h9.2.2.2.2.2)]⟩) ⟨Nat.le_of_ble_eq_true rfl, Nat.le_of_ble_eq_true rfl⟩
          · replace c57 : rg 0 9999 v := b2_of1 c57
            refine lv_iload hx hb dX2_post_60 (lv_at hl 6 rfl) ?_
            refine lv_iconst (v := 0) hx hb dX2_post_62 (by decide) ?_
            refine lv_bipush (v := 30) hx hb dX2_post_63 (by decide) ?_
            refine y_roS (As := [.int dl, .int 0, .int 30]) (rest := []) ⟨hx, hb, hml, hown, hts⟩ (c_X2_isWithin l dl 0 30 ) (va_cwS 3 hts gX2_post_X2_isWithin rfl rfl rfl (by decide +kernel) ⟨Nat.le_of_ble_eq_true rfl, Nat.le_of_ble_eq_true rfl⟩) rfl hl.1 rfl (Nat.le_of_ble_eq_true rfl) dX2_post_65 ⟨Nat.le_of_ble_eq_true rfl, Nat.le_of_ble_eq_true rfl⟩ (fun r hr9 => ?_)
            subst hr9
            refine lv_if_ne (tgt := 81) hx hb dX2_post_68 (by decide) (fun c68 => ?_) (fun c68 => ?_)
            · replace c68 : rg 0 30 dl := b2_of1 c68
              refine lv_aload_n hx hb dX2_post_81 rfl (lv_at hl 0 rfl) ?_
              refine va_get (D := G) (ci := 4) (v := .ref (c 0)) (C := RX2) (T := TX2) (N := 3) hx hb hts hinX2 hown hK hP 0 rfl rfl 1 (by decide) fl19 (fun _ h9 => h9) rfl dX2_post_82 ?_
              refine lv_iload_n hx hb dX2_post_85 rfl (lv_at hl 2 rfl) ?_
              refine y_roVN (As := [.int key]) (rest := []) ⟨hx, hb, hml, hown, hts⟩ (c_X1_find l G k c M ds n1 key (by omega)) ⟨va_cnB (host := "DunningDesk") 1 hts gX2_post_X1_find_n112 rfl rfl rfl (hE.1 (.methodLinkNest RX2 112 yX1_find "DunningDesk") (by decide +kernel)) (hts (.initialized RX1) (by decide +kernel)) (by decide +kernel) ⟨Nat.le_of_ble_eq_true rfl, Nat.le_of_ble_eq_true rfl⟩, hts (.instanceMethod yX1_find) (by decide +kernel), hts (.selects RX1 yX1_find yX1_find) (by decide +kernel)⟩ hK (P21 hP) (va_recv hK (P21 hP) (ci := 3) (q0 := 0) rfl rfl) rfl hl.1 rfl (Nat.le_of_ble_eq_true rfl) dX2_post_86 ⟨Nat.le_of_ble_eq_true rfl, Nat.le_of_ble_eq_true rfl⟩ (fun r hr9 => ?_)
              subst hr9
              refine lv_istore (lv' := [(7, .int (oI (fnd (M 1) key n1 0))), (0, .ref h), (1, .int q), (2, .int key), (3, .int kd), (4, .int x), (5, .int v), (6, .int dl)]) hx hb dX2_post_89 hl (by decide) rfl (fun ls hl => ?_)
              refine lv_iload hx hb dX2_post_91 (lv_at hl 0 rfl) ?_
              refine lv_iconst (v := (-1)) hx hb dX2_post_93 (by decide) ?_
              refine lv_icmp_eq (tgt := 100) hx hb dX2_post_94 (by decide) (fun c94 => ?_) (fun c94 => ?_)
              · replace c94 : fnd (M 1) key n1 0 = none := oI_none (fun z h => by have := fnd_lt h; omega) c94
                refine lv_aload_n hx hb dX2_post_100 rfl (lv_at hl 1 rfl) ?_
                refine va_get (D := G) (ci := 4) (v := .ref (c 0)) (C := RX2) (T := TX2) (N := 3) hx hb hts hinX2 hown hK hP 0 rfl rfl 1 (by decide) fl19 (fun _ h9 => h9) rfl dX2_post_101 ?_
                refine y_roVN (As := []) (rest := []) ⟨hx, hb, hml, hown, hts⟩ (c_X1_isFull l G k c M ds n1  (by omega)) ⟨va_cnB (host := "DunningDesk") 0 hts gX2_post_X1_isFull_n115 rfl rfl rfl (hE.1 (.methodLinkNest RX2 115 yX1_isFull "DunningDesk") (by decide +kernel)) (hts (.initialized RX1) (by decide +kernel)) (by decide +kernel) ⟨Nat.le_of_ble_eq_true rfl, Nat.le_of_ble_eq_true rfl⟩, hts (.instanceMethod yX1_isFull) (by decide +kernel), hts (.selects RX1 yX1_isFull yX1_isFull) (by decide +kernel)⟩ hK (P21 hP) (va_recv hK (P21 hP) (ci := 3) (q0 := 0) rfl rfl) rfl hl.1 rfl (Nat.le_of_ble_eq_true rfl) dX2_post_104 ⟨Nat.le_of_ble_eq_true rfl, Nat.le_of_ble_eq_true rfl⟩ (fun r hr9 => ?_)
                subst hr9
                refine lv_if_eq (tgt := 120) hx hb dX2_post_107 (by decide) (fun c107 => ?_) (fun c107 => ?_)
                · replace c107 : ¬ n1 = 80 := fun h9 => b2_of0 c107 (by omega)
                  refine lv_aload_n hx hb dX2_post_120 rfl (lv_at hl 1 rfl) ?_
                  refine va_get (D := G) (ci := 4) (v := .ref (c 0)) (C := RX2) (T := TX2) (N := 3) hx hb hts hinX2 hown hK hP 0 rfl rfl 1 (by decide) fl19 (fun _ h9 => h9) rfl dX2_post_121 ?_
                  refine lv_iload_n hx hb dX2_post_124 rfl (lv_at hl 2 rfl) ?_
                  refine lv_iload_n hx hb dX2_post_125 rfl (lv_at hl 3 rfl) ?_
                  refine lv_iload_n hx hb dX2_post_126 rfl (lv_at hl 4 rfl) ?_
                  refine lv_iload hx hb dX2_post_127 (lv_at hl 5 rfl) ?_
                  refine lv_iload hx hb dX2_post_129 (lv_at hl 6 rfl) ?_
                  refine lv_aload_n hx hb dX2_post_131 rfl (lv_at hl 1 rfl) ?_
                  refine va_get (D := G) (ci := 4) (v := .int (nI d)) (C := RX2) (T := TX2) (N := 3) hx hb hts hinX2 hown hK hP 0 rfl rfl 2 (by decide) fl23 (fun _ h9 => h9) rfl dX2_post_132 ?_
                  refine lv_iload hx hb dX2_post_135 (lv_at hl 7 rfl) ?_
                  refine lv_iadd hx hb dX2_post_137 ?_
                  have hfr9 : ∀ q, va_A (W1 k c M ds n1) _ q → A q := va_free hD hS hA [8, 9, 10, 11, 12, 13, 14, 15, 16, 17, 18, 19] rfl
                  refine y_rwVN (w := W1 k c M ds n1) (w' := fun (_ : Unit) => W1 k c (madd M n1 q key kd x v ((nI d) + dl)) ds (n1 + 1)) (As := [.int q, .int key, .int kd, .int x, .int v, .int ((nI d) + dl)]) (rest := []) ⟨hx, hb, hml, hown, hts⟩ (c_X1_add l G k c M ds n1 _ q key kd x v ((nI d) + dl) (yD hND1 rfl) (by omega) (by first | (rw [c7]; decide) | (rw [c13]; decide))) ⟨va_cnB (host := "DunningDesk") 6 hts gX2_post_X1_add_n118 rfl rfl rfl (hE.1 (.methodLinkNest RX2 118 yX1_add "DunningDesk") (by decide +kernel)) (hts (.initialized RX1) (by decide +kernel)) (by decide +kernel) ⟨Nat.le_of_ble_eq_true rfl, Nat.le_of_ble_eq_true rfl⟩, hts (.instanceMethod yX1_add) (by decide +kernel), hts (.selects RX1 yX1_add yX1_add) (by decide +kernel)⟩ hK (P21 hP) (va_recv hK (P21 hP) (ci := 3) (q0 := 0) rfl rfl) hS hfr9 rfl hl.1 rfl (Nat.le_of_ble_eq_true rfl) dX2_post_138 ⟨Nat.le_of_ble_eq_true rfl, Nat.le_of_ble_eq_true rfl⟩ (fun r u9 H1 locs1 hr9 hP9 hz9 hk9 hS9 => ?_)
                  have hP9 : va_P G vwCl (W2 k h a c C n0 (madd M n1 q key kd x v ((nI d) + dl)) ds (n1 + 1) d) H1 := J21 hP hD hfr9 hk9 hP9
                  have hD9 : va_D A (W2 k h a c C n0 (madd M n1 q key kd x v ((nI d) + dl)) ds (n1 + 1) d) := yD hD rfl
                  clear hP hD hS hfr9 hz9 hk9
                  have hP := hP9
                  have hD := hD9
                  have hS := hS9
                  clear hP9 hD9 hS9
                  subst hr9
                  refine lv_istore (lv' := [(8, .int (nI n1)), (7, .int (oI (fnd (M 1) key n1 0))), (0, .ref h), (1, .int q), (2, .int key), (3, .int kd), (4, .int x), (5, .int v), (6, .int dl)]) hx hb dX2_post_141 hl (by decide) rfl (fun ls hl => ?_)
                  refine lv_aload_n hx hb dX2_post_143 rfl (lv_at hl 2 rfl) ?_
                  refine va_get (D := G) (ci := 4) (v := .ref (a 0)) (C := RX2) (T := TX2) (N := 3) hx hb hts hinX2 hown hK hP 0 rfl rfl 0 (by decide) fl10 (fun _ h9 => h9) rfl dX2_post_144 ?_
                  refine lv_iload hx hb dX2_post_147 (lv_at hl 6 rfl) ?_
                  refine y_roVN (As := [.int x]) (rest := []) ⟨hx, hb, hml, hown, hts⟩ (c_X0_contains l G k a C n0 x (by omega)) ⟨va_cnB (host := "DunningDesk") 1 hts gX2_post_X0_contains_n121 rfl rfl rfl (hE.1 (.methodLinkNest RX2 121 yX0_contains "DunningDesk") (by decide +kernel)) (hts (.initialized RX0) (by decide +kernel)) (by decide +kernel) ⟨Nat.le_of_ble_eq_true rfl, Nat.le_of_ble_eq_true rfl⟩, hts (.instanceMethod yX0_contains) (by decide +kernel), hts (.selects RX0 yX0_contains yX0_contains) (by decide +kernel)⟩ hK (P20 hP) (va_recv hK (P20 hP) (ci := 2) (q0 := 0) rfl rfl) rfl hl.1 rfl (Nat.le_of_ble_eq_true rfl) dX2_post_149 ⟨Nat.le_of_ble_eq_true rfl, Nat.le_of_ble_eq_true rfl⟩ (fun r hr9 => ?_)
                  subst hr9
                  refine lv_if_ne (tgt := 167) hx hb dX2_post_152 (by decide) (fun c152 => ?_) (fun c152 => ?_)
                  · replace c152 : inR x n0 := b2_of1 c152
                    refine lv_iload hx hb dX2_post_167 (lv_at hl 0 rfl) ?_
                    refine W.widen (k := 2) (n := 12) (by decide) (by decide) ?_
                    have hPf : va_P G vwCl (W2 k h a c C n0 ((o_post q key kd x v dl n0 M n1 d).2.2.1) ds ((o_post q key kd x v dl n0 M n1 d).2.2.2) d) H1 := by unfold o_post; rw [if_pos (show okp q key kd x v dl from ⟨c1, c34, by first | exact Or.inl c7 | exact Or.inr c13, c45, c57, c68⟩)]; rw [if_pos c94, if_neg c107]; first | (rw [if_pos c152.2]; exact hP) | (rw [if_neg (fun h => c152 ⟨Int32.not_lt.mpr c45.1, h⟩)]; rw [show w2 (madd M n1 q key kd x v (nI d + dl)) 5 n1 104 = mad2 M n1 q key kd x v (nI d + dl) 104 from w2_w2] at hP; exact hP)
                    exact vx_ret (W.iret (v := (nI n1)) hx hb hr (fun τ hτ hW => ⟨⟨_, (), rfl, (by unfold o_post; rw [if_pos (show okp q key kd x v dl from ⟨c1, c34, by first | exact Or.inl c7 | exact Or.inr c13, c45, c57, c68⟩)]; rw [if_pos c94, if_neg c107]; exact ⟨rfl, rfl⟩), yPt hPf hτ⟩, hS.F hτ⟩) hS.2.2 dX2_post_169)
                  · replace c152 : ¬ (inR x n0) := b2_of0 c152
                    refine lv_aload_n hx hb dX2_post_155 rfl (lv_at hl 2 rfl) ?_
                    refine va_get (D := G) (ci := 4) (v := .ref (c 0)) (C := RX2) (T := TX2) (N := 3) hx hb hts hinX2 hown hK hP 0 rfl rfl 1 (by decide) fl19 (fun _ h9 => h9) rfl dX2_post_156 ?_
                    refine va_getN (D := G) (ci := 3) (v := .ref (c 6)) (C := RX1) (T := TX1) (N := 13) (host := "DunningDesk") hx hb hts hinX1 hown hK hP 8 rfl rfl 5 (by decide) (va_Nw.use rfl (hE.1 (.fieldLinkNest RX2 124 "DunningDesk$MessageBook" "states" "[C" "DunningDesk") (by decide +kernel))) (fun _ h9 => h9) rfl dX2_post_159 ?_
                    refine lv_iload hx hb dX2_post_162 (lv_at hl 0 rfl) ?_
                    refine lv_bipush (v := 104) hx hb dX2_post_164 (by decide) ?_
                    refine y_cast (ws' := W2 k h a c C n0 (w2 (madd M n1 q key kd x v ((nI d) + dl)) 5 n1 104) ds (n1 + 1) d) (j := n1) (x := 104) hx hb hK hP hD hS 14 2 rfl rfl (by omega) hsz1 (by decide) rfl dX2_post_166 (fun H locs hP hD hS => ?_)
                    refine lv_iload hx hb dX2_post_167 (lv_at hl 0 rfl) ?_
                    refine W.widen (k := 2) (n := 12) (by decide) (by decide) ?_
                    have hPf : va_P G vwCl (W2 k h a c C n0 ((o_post q key kd x v dl n0 M n1 d).2.2.1) ds ((o_post q key kd x v dl n0 M n1 d).2.2.2) d) H := by unfold o_post; rw [if_pos (show okp q key kd x v dl from ⟨c1, c34, by first | exact Or.inl c7 | exact Or.inr c13, c45, c57, c68⟩)]; rw [if_pos c94, if_neg c107]; first | (rw [if_pos c152.2]; exact hP) | (rw [if_neg (fun h => c152 ⟨Int32.not_lt.mpr c45.1, h⟩)]; rw [show w2 (madd M n1 q key kd x v (nI d + dl)) 5 n1 104 = mad2 M n1 q key kd x v (nI d + dl) 104 from w2_w2] at hP; exact hP)
                    exact vx_ret (W.iret (v := (nI n1)) hx hb hr (fun τ hτ hW => ⟨⟨_, (), rfl, (by unfold o_post; rw [if_pos (show okp q key kd x v dl from ⟨c1, c34, by first | exact Or.inl c7 | exact Or.inr c13, c45, c57, c68⟩)]; rw [if_pos c94, if_neg c107]; exact ⟨rfl, rfl⟩), yPt hPf hτ⟩, hS.F hτ⟩) hS.2.2 dX2_post_169)
                · replace c107 : n1 = 80 := by have := b2_of1 c107; omega
                  exact y_thr (rest := []) (ik := 42) (is := 116) (ic := 46) (cls := "java/lang/IllegalStateException") (text := "there are 80 messages") hx hb hl9 hts hE hown (by decide) (by decide +kernel) (by decide +kernel) (by decide +kernel) (by decide +kernel) yat_ISE yot_ISE (hl.1.trans hml.symm) dX2_post_110 dX2_post_113 dX2_post_114 dX2_post_116 dX2_post_119 ht ⟨Nat.le_of_ble_eq_true rfl, Nat.le_of_ble_eq_true rfl, Nat.le_of_ble_eq_true rfl, Nat.le_of_ble_eq_true rfl⟩ hlocks (by exact Or.inr ⟨rfl, by unfold o_post; rw [if_pos (show okp q key kd x v dl from ⟨c1, c34, by first | exact Or.inl c7 | exact Or.inr c13, c45, c57, c68⟩)]; rw [if_pos c94, if_pos c107]⟩) ⟨Nat.le_of_ble_eq_true rfl, Nat.le_of_ble_eq_true rfl⟩
              · replace c94 : ¬ fnd (M 1) key n1 0 = none := fun h9 => c94 (by rw [h9]; rfl)
                refine lv_iload hx hb dX2_post_97 (lv_at hl 0 rfl) ?_
                refine W.widen (k := 2) (n := 12) (by decide) (by decide) ?_
                have hPf : va_P G vwCl (W2 k h a c C n0 ((o_post q key kd x v dl n0 M n1 d).2.2.1) ds ((o_post q key kd x v dl n0 M n1 d).2.2.2) d) s.heap := by unfold o_post; rw [if_pos (show okp q key kd x v dl from ⟨c1, c34, by first | exact Or.inl c7 | exact Or.inr c13, c45, c57, c68⟩)]; rw [if_neg c94]; exact hP
                exact vx_ret (W.iret (v := (oI (fnd (M 1) key n1 0))) hx hb hr (fun τ hτ hW => ⟨⟨_, (), rfl, (by unfold o_post; rw [if_pos (show okp q key kd x v dl from ⟨c1, c34, by first | exact Or.inl c7 | exact Or.inr c13, c45, c57, c68⟩)]; rw [if_neg c94]; exact ⟨rfl, rfl⟩), yPt hPf hτ⟩, hS.F hτ⟩) hS.2.2 dX2_post_99)
            · replace c68 : ¬ (rg 0 30 dl) := b2_of0 c68
              exact y_thr (rest := []) (ik := 31) (is := 110) (ic := 35) (cls := "java/lang/IllegalArgumentException") (text := "a number is out of range") hx hb hl9 hts hE hown (by decide) (by decide +kernel) (by decide +kernel) (by decide +kernel) (by decide +kernel) yat_IAE yot_IAE (hl.1.trans hml.symm) dX2_post_71 dX2_post_74 dX2_post_75 dX2_post_77 dX2_post_80 ht ⟨Nat.le_of_ble_eq_true rfl, Nat.le_of_ble_eq_true rfl, Nat.le_of_ble_eq_true rfl, Nat.le_of_ble_eq_true rfl⟩ hlocks (by exact Or.inl ⟨rfl, by unfold o_post; rw [if_neg (fun h9 => by first | exact c34 h9.2.1 | exact h9.2.2.1.elim c7 c13 | exact c45 h9.2.2.2.1 | exact c57 h9.2.2.2.2.1 | exact c68 h9.2.2.2.2.2)]⟩) ⟨Nat.le_of_ble_eq_true rfl, Nat.le_of_ble_eq_true rfl⟩
    · skip
      exact y_thr (rest := []) (ik := 31) (is := 108) (ic := 35) (cls := "java/lang/IllegalArgumentException") (text := "there is no such kind") hx hb hl9 hts hE hown (by decide) (by decide +kernel) (by decide +kernel) (by decide +kernel) (by decide +kernel) yat_IAE yot_IAE (hl.1.trans hml.symm) dX2_post_16 dX2_post_19 dX2_post_20 dX2_post_22 dX2_post_25 ht ⟨Nat.le_of_ble_eq_true rfl, Nat.le_of_ble_eq_true rfl, Nat.le_of_ble_eq_true rfl, Nat.le_of_ble_eq_true rfl⟩ hlocks (by exact Or.inl ⟨rfl, by unfold o_post; rw [if_neg (fun h9 => by first | exact c34 h9.2.1 | exact h9.2.2.1.elim c7 c13 | exact c45 h9.2.2.2.1 | exact c57 h9.2.2.2.2.1 | exact c68 h9.2.2.2.2.2)]⟩) ⟨Nat.le_of_ble_eq_true rfl, Nat.le_of_ble_eq_true rfl⟩

set_option maxHeartbeats 4000000 in
set_option maxRecDepth 100000 in
theorem c_X2_readyAtPlace (l : Launch) (hl9 : l.stackTraces = false) (G : va_G) (k : Nat → ClassId) (h : Nat) (a : Nat → Nat) (c : Nat → Nat) (C : Nat → Nat → Int32) (n0 : Nat) (M : Nat → Nat → Int32) (ds : Nat) (n1 : Nat) (d : Nat) (q pl : Int32) (hn1 : n1 ≤ 80) : vx_Met l yX2_readyAtPlace wsX2_readyAtPlace ({ frames := 7, cells := 2, slots := 12, locals := 110 }) (va_Pc [.ref h, .int q, .int pl] (yE G (yT k) (W2 k h a c C n0 M ds n1 d))) (vp_Si (fun r => (o_rapC q pl M n1 d).1 = 0 ∧ r = (o_rapC q pl M n1 d).2)) (yX (fun E => (E = "java/lang/IllegalArgumentException" ∧ (o_rapC q pl M n1 d).1 = 1) ∨ (E = yNSE ∧ (o_rapC q pl M n1 d).1 = 2))) 2 12 (fun _ => False) := by
  refine vx_ofW (cc := cX2_readyAtPlace) (maxL := 5) (ret := (some .int)) (by decide) rfl ?_
  intro p e s m args below meth c_ s₁ B hml ht hv
  obtain ⟨rfl, hP, hK, hE⟩ := hv
  have hE : yEV0 s s.heap := hE
  have hx := B.exec
  have hb := B.bytes
  have hr := B.returns
  have hts := atoms_spec (ws := wsX2_readyAtPlace) B.pre
  have hown : s.vm.findClass RX2 = some m.cls := findClass_of_methodNamed B.named
  have hlocks := B.notSynchronized
  have hsz0 : (8 : Nat) < 2 ^ 31 := by decide
  have hsz1 : (80 : Nat) < 2 ^ 31 := by decide
  have hinX2 : ∀ w ∈ u_ws RX2 TX2 3, w ∈ wsX2_readyAtPlace := by decide +kernel
  have fl19 := hts (.fieldLink RX2 19 "DunningDesk" "messages" "LDunningDesk$MessageBook;") (by decide +kernel)
  have fl23 := hts (.fieldLink RX2 23 "DunningDesk" "today" "I") (by decide +kernel)
  have hl := lv_entry [.ref h, .int q, .int pl] (n := 5) (Nat.le_of_ble_eq_true rfl)
  rw [lg_entry_eq]
  generalize (lg_sl [.ref h, .int q, .int pl] ++ List.replicate (5 - (lg_sl [.ref h, .int q, .int pl]).length) Slot.unset).toArray = ls at hl ⊢
  have hl : lv_has ls 5 [(0, .ref h), (1, .int q), (2, .int pl)] := hl
  refine lv_iload_n hx hb dX2_readyAtPlace_0 rfl (lv_at hl 1 rfl) ?_
  refine y_xvS (As := [.int q]) (rest := []) ⟨hx, hb, hml, hown, hts⟩ (c_X2_requireQueue l hl9 q ) (va_cwS 1 hts gX2_readyAtPlace_X2_requireQueue rfl rfl rfl (by decide +kernel) ⟨Nat.le_of_ble_eq_true rfl, Nat.le_of_ble_eq_true rfl⟩) hE rfl hl.1 rfl (Nat.le_of_ble_eq_true rfl) dX2_readyAtPlace_1 ⟨Nat.le_of_ble_eq_true rfl, Nat.le_of_ble_eq_true rfl⟩ ht hlocks (fun E h9 => Or.inl (⟨h9.1, by unfold o_rapC; (all_goals try first | rw [if_pos h9.2] | rw [if_neg h9.2]); (all_goals try simp only [clI (show j < 80 by omega)]); (all_goals try rfl)⟩)) ⟨Nat.le_of_ble_eq_true rfl, Nat.le_of_ble_eq_true rfl⟩ (fun hr9 => ?_)
  have c1 := hr9
  refine lv_iload_n hx hb dX2_readyAtPlace_4 rfl (lv_at hl 2 rfl) ?_
  refine lv_if_lt (tgt := 24) hx hb dX2_readyAtPlace_5 (by decide) (fun c5 => ?_) (fun c5 => ?_)
  · skip
    exact y_thrN (rest := []) (is := 149) (text := "there is no such place") hx hb hl9 hts hE hown (by decide +kernel) (by decide +kernel) (by decide +kernel) (by decide +kernel) (hl.1.trans hml.symm) dX2_readyAtPlace_24 dX2_readyAtPlace_27 dX2_readyAtPlace_28 dX2_readyAtPlace_30 dX2_readyAtPlace_33 ht ⟨Nat.le_of_ble_eq_true rfl, Nat.le_of_ble_eq_true rfl, Nat.le_of_ble_eq_true rfl, Nat.le_of_ble_eq_true rfl⟩ hlocks (by exact Or.inr ⟨rfl, by unfold o_rapC; rw [if_pos c1, if_neg (fun h9 => by first | exact h9.1 c5 | exact c21 h9.2)]⟩) ⟨Nat.le_of_ble_eq_true rfl, Nat.le_of_ble_eq_true rfl⟩
  · skip
    refine lv_iload_n hx hb dX2_readyAtPlace_8 rfl (lv_at hl 2 rfl) ?_
    refine lv_aload_n hx hb dX2_readyAtPlace_9 rfl (lv_at hl 0 rfl) ?_
    refine va_get (D := G) (ci := 4) (v := .ref (c 0)) (C := RX2) (T := TX2) (N := 3) hx hb hts hinX2 hown hK hP 0 rfl rfl 1 (by decide) fl19 (fun _ h9 => h9) rfl dX2_readyAtPlace_10 ?_
    refine lv_iload_n hx hb dX2_readyAtPlace_13 rfl (lv_at hl 1 rfl) ?_
    refine lv_aload_n hx hb dX2_readyAtPlace_14 rfl (lv_at hl 0 rfl) ?_
    refine va_get (D := G) (ci := 4) (v := .int (nI d)) (C := RX2) (T := TX2) (N := 3) hx hb hts hinX2 hown hK hP 0 rfl rfl 2 (by decide) fl23 (fun _ h9 => h9) rfl dX2_readyAtPlace_15 ?_
    refine y_roVN (As := [.int q, .int (nI d)]) (rest := [.int pl]) ⟨hx, hb, hml, hown, hts⟩ (c_X1_countReady l G k c M ds n1 q (nI d) (by omega)) ⟨va_cnB (host := "DunningDesk") 2 hts gX2_readyAtPlace_X1_countReady_n146 rfl rfl rfl (hE.1 (.methodLinkNest RX2 146 yX1_countReady "DunningDesk") (by decide +kernel)) (hts (.initialized RX1) (by decide +kernel)) (by decide +kernel) ⟨Nat.le_of_ble_eq_true rfl, Nat.le_of_ble_eq_true rfl⟩, hts (.instanceMethod yX1_countReady) (by decide +kernel), hts (.selects RX1 yX1_countReady yX1_countReady) (by decide +kernel)⟩ hK (P21 hP) (va_recv hK (P21 hP) (ci := 3) (q0 := 0) rfl rfl) rfl hl.1 rfl (Nat.le_of_ble_eq_true rfl) dX2_readyAtPlace_18 ⟨Nat.le_of_ble_eq_true rfl, Nat.le_of_ble_eq_true rfl⟩ (fun r hr9 => ?_)
    subst hr9
    refine lv_icmp_lt (tgt := 34) hx hb dX2_readyAtPlace_21 (by decide) (fun c21 => ?_) (fun c21 => ?_)
    · obtain ⟨e9, he9, rfl⟩ := nI_of c5
      refine lv_aload_n hx hb dX2_readyAtPlace_34 rfl (lv_at hl 0 rfl) ?_
      refine va_get (D := G) (ci := 4) (v := .ref (c 0)) (C := RX2) (T := TX2) (N := 3) hx hb hts hinX2 hown hK hP 0 rfl rfl 1 (by decide) fl19 (fun _ h9 => h9) rfl dX2_readyAtPlace_35 ?_
      refine lv_iload_n hx hb dX2_readyAtPlace_38 rfl (lv_at hl 1 rfl) ?_
      refine lv_aload_n hx hb dX2_readyAtPlace_39 rfl (lv_at hl 0 rfl) ?_
      refine va_get (D := G) (ci := 4) (v := .int (nI d)) (C := RX2) (T := TX2) (N := 3) hx hb hts hinX2 hown hK hP 0 rfl rfl 2 (by decide) fl23 (fun _ h9 => h9) rfl dX2_readyAtPlace_40 ?_
      refine lv_iconst (v := (-1)) hx hb dX2_readyAtPlace_43 (by decide) ?_
      refine y_roVN (As := [.int q, .int (nI d), .int (-1)]) (rest := []) ⟨hx, hb, hml, hown, hts⟩ (c_X1_nextReady l G k c M ds n1 q (nI d) none (by omega) (fun z h => nomatch h)) ⟨va_cnB (host := "DunningDesk") 3 hts gX2_readyAtPlace_X1_nextReady_n151 rfl rfl rfl (hE.1 (.methodLinkNest RX2 151 yX1_nextReady "DunningDesk") (by decide +kernel)) (hts (.initialized RX1) (by decide +kernel)) (by decide +kernel) ⟨Nat.le_of_ble_eq_true rfl, Nat.le_of_ble_eq_true rfl⟩, hts (.instanceMethod yX1_nextReady) (by decide +kernel), hts (.selects RX1 yX1_nextReady yX1_nextReady) (by decide +kernel)⟩ hK (P21 hP) (va_recv hK (P21 hP) (ci := 3) (q0 := 0) rfl rfl) rfl hl.1 rfl (Nat.le_of_ble_eq_true rfl) dX2_readyAtPlace_44 ⟨Nat.le_of_ble_eq_true rfl, Nat.le_of_ble_eq_true rfl⟩ (fun r hr9 => ?_)
      subst hr9
      refine lv_istore_n (lv' := [(3, .int (oI (nxt M q (nI d) none n1 0 none))), (0, .ref h), (1, .int q), (2, .int (nI e9))]) hx hb dX2_readyAtPlace_47 rfl hl (by decide) rfl (fun ls hl => ?_)
      refine lv_iconst (v := 0) hx hb dX2_readyAtPlace_48 (by decide) ?_
      refine lv_istore (lv' := [(4, .int 0), (3, .int (oI (nxt M q (nI d) none n1 0 none))), (0, .ref h), (1, .int q), (2, .int (nI e9))]) hx hb dX2_readyAtPlace_49 hl (by decide) rfl (fun ls hl => ?_)
      have hl : lv_has ls 5 [(4, .int (nI 0)), (3, .int (oI (nxt M q (nI d) none n1 0 none))), (0, .ref h), (1, .int q), (2, .int (nI e9))] := lv_sub hl [0, 1, 2, 3, 4] rfl
      refine y_loop (σ := Nat × (Option Nat)) (fun r xσ H locs ls => xσ.1 + r = e9 ∧ xσ.2 = nthN M q (nI d) n1 xσ.1 ∧ H = s.heap ∧ locs = [] ∧ lv_has ls 5 [(4, .int (nI xσ.1)), (3, .int (oI xσ.2)), (0, .ref h), (1, .int q), (2, .int (nI e9))]) (fun r xσ H locs ls hI ih51 => ?_) e9 (0, nxt M q (nI d) none n1 0 none) _ _ _ ⟨(by omega), rfl, rfl, rfl, hl⟩
      obtain ⟨z9, o⟩ := xσ
      obtain ⟨hz, ho, rfl, rfl, hl⟩ := hI
      dsimp only at hz ho hl
      refine lv_iload hx hb dX2_readyAtPlace_51 (lv_at hl 0 rfl) ?_
      refine lv_iload_n hx hb dX2_readyAtPlace_53 rfl (lv_at hl 4 rfl) ?_
      refine lv_icmp_ge (tgt := 77) hx hb dX2_readyAtPlace_54 (by decide) (fun c54 => ?_) (fun c54 => ?_)
      · replace c54 : e9 ≤ z9 := (nI_leI (a := e9) (b := z9) (by omega) (by omega)).mp c54
        refine lv_iload_n hx hb dX2_readyAtPlace_77 rfl (lv_at hl 1 rfl) ?_
        refine W.widen (k := 2) (n := 12) (by decide) (by decide) ?_
        exact vx_ret (W.iret (v := (oI o)) hx hb hr (fun τ hτ _ => ⟨_, rfl, (by (obtain rfl : r = 0 := by omega); (obtain rfl : z9 = e9 := by omega); unfold o_rapC; rw [if_pos c1, if_pos ⟨c5, c21⟩, show cl (nI _) = _ from nI_clamp he9, ho]; exact ⟨rfl, rfl⟩), hτ⟩) (fun _ h9 => nomatch h9) dX2_readyAtPlace_78)
      · replace c54 : ¬ e9 ≤ z9 := fun h9 => c54 ((nI_leI (a := e9) (b := z9) (by omega) (by omega)).mpr h9)
        obtain ⟨r', rfl⟩ : ∃ r', r = r' + 1 := ⟨r - 1, by omega⟩
        refine lv_aload_n hx hb dX2_readyAtPlace_57 rfl (lv_at hl 2 rfl) ?_
        refine va_get (D := G) (ci := 4) (v := .ref (c 0)) (C := RX2) (T := TX2) (N := 3) hx hb hts hinX2 hown hK hP 0 rfl rfl 1 (by decide) fl19 (fun _ h9 => h9) rfl dX2_readyAtPlace_58 ?_
        refine lv_iload_n hx hb dX2_readyAtPlace_61 rfl (lv_at hl 3 rfl) ?_
        refine lv_aload_n hx hb dX2_readyAtPlace_62 rfl (lv_at hl 2 rfl) ?_
        refine va_get (D := G) (ci := 4) (v := .int (nI d)) (C := RX2) (T := TX2) (N := 3) hx hb hts hinX2 hown hK hP 0 rfl rfl 2 (by decide) fl23 (fun _ h9 => h9) rfl dX2_readyAtPlace_63 ?_
        refine lv_iload_n hx hb dX2_readyAtPlace_66 rfl (lv_at hl 1 rfl) ?_
        refine y_roVN (As := [.int q, .int (nI d), .int (oI o)]) (rest := []) ⟨hx, hb, hml, hown, hts⟩ (c_X1_nextReady l G k c M ds n1 q (nI d) o (by omega) (fun z h => by have := nthN_lt (ho.symm.trans h); omega)) ⟨va_cnB (host := "DunningDesk") 3 hts gX2_readyAtPlace_X1_nextReady_n151 rfl rfl rfl (hE.1 (.methodLinkNest RX2 151 yX1_nextReady "DunningDesk") (by decide +kernel)) (hts (.initialized RX1) (by decide +kernel)) (by decide +kernel) ⟨Nat.le_of_ble_eq_true rfl, Nat.le_of_ble_eq_true rfl⟩, hts (.instanceMethod yX1_nextReady) (by decide +kernel), hts (.selects RX1 yX1_nextReady yX1_nextReady) (by decide +kernel)⟩ hK (P21 hP) (va_recv hK (P21 hP) (ci := 3) (q0 := 0) rfl rfl) rfl hl.1 rfl (Nat.le_of_ble_eq_true rfl) dX2_readyAtPlace_67 ⟨Nat.le_of_ble_eq_true rfl, Nat.le_of_ble_eq_true rfl⟩ (fun r hr9 => ?_)
        subst hr9
        refine lv_istore_n (lv' := [(3, .int (oI (nxt M q (nI d) o n1 0 none))), (4, .int (nI z9)), (0, .ref h), (1, .int q), (2, .int (nI e9))]) hx hb dX2_readyAtPlace_70 rfl hl (by decide) rfl (fun ls hl => ?_)
        refine lv_iinc (v := nI (z9 + 1)) (lv' := [(4, .int (nI (z9 + 1))), (3, .int (oI (nxt M q (nI d) o n1 0 none))), (0, .ref h), (1, .int q), (2, .int (nI e9))]) hx hb dX2_readyAtPlace_71 hl (k := 1) rfl (nI_1 z9) (by decide) rfl (fun ls hl => ?_)
        refine lv_goto (tgt := 51) hx hb dX2_readyAtPlace_74 (by decide) ?_
        exact ih51 r' (z9 + 1, nxt M q (nI d) o n1 0 none) _ _ _ (by omega) ⟨(by omega), (by rw [ho]; rfl), rfl, rfl, lv_sub hl [0, 1, 2, 3, 4] rfl⟩
    · skip
      exact y_thrN (rest := []) (is := 149) (text := "there is no such place") hx hb hl9 hts hE hown (by decide +kernel) (by decide +kernel) (by decide +kernel) (by decide +kernel) (hl.1.trans hml.symm) dX2_readyAtPlace_24 dX2_readyAtPlace_27 dX2_readyAtPlace_28 dX2_readyAtPlace_30 dX2_readyAtPlace_33 ht ⟨Nat.le_of_ble_eq_true rfl, Nat.le_of_ble_eq_true rfl, Nat.le_of_ble_eq_true rfl, Nat.le_of_ble_eq_true rfl⟩ hlocks (by exact Or.inr ⟨rfl, by unfold o_rapC; rw [if_pos c1, if_neg (fun h9 => by first | exact h9.1 c5 | exact c21 h9.2)]⟩) ⟨Nat.le_of_ble_eq_true rfl, Nat.le_of_ble_eq_true rfl⟩

set_option maxHeartbeats 4000000 in
set_option maxRecDepth 100000 in
theorem c_X2_take (l : Launch) (hl9 : l.stackTraces = false) (G : va_G) (k : Nat → ClassId) (h : Nat) (a : Nat → Nat) (c : Nat → Nat) (C : Nat → Nat → Int32) (n0 : Nat) (M : Nat → Nat → Int32) (ds : Nat) (n1 : Nat) (d : Nat) (sz : Nat) (u q : Int32) (hND : va_D (fun _ => True) (W2 k h a c C n0 M ds n1 d)) (hn1 : n1 ≤ 80) : vx_Met l yX2_take wsX2_take ({ frames := 7, cells := 3, slots := 18, locals := 110 }) (va_Pc [.ref h, .int u, .int q] (yEs G (yT k) (W2 k h a c C n0 M ds n1 d) sz)) (va_Qi (fun (r : Int32) (_ : Unit) => (o_takeC u q M n1 d).1 = 0 ∧ r = (o_takeC u q M n1 d).2.1) (fun _ τ => va_P G vwCl (W2 k h a c C n0 ((o_takeC u q M n1 d).2.2) ds n1 d) τ.heap) (va_A (W2 k h a c C n0 M ds n1 d) sz)) (yX (fun E => (E = "java/lang/IllegalArgumentException" ∧ (o_takeC u q M n1 d).1 = 1) ∨ (E = "java/lang/IllegalStateException" ∧ (o_takeC u q M n1 d).1 = 2) ∨ (E = yNSE ∧ (o_takeC u q M n1 d).1 = 3))) 3 18 (va_A (W2 k h a c C n0 M ds n1 d) sz) := by
  refine vx_ofW (cc := cX2_take) (maxL := 4) (ret := (some .int)) (by decide) rfl ?_
  intro p e s m args below meth c_ s₁ B hml ht hv
  obtain ⟨rfl, hsz, hP, hK, hE⟩ := hv
  have hE : yEV0 s s.heap := hE
  have hx := B.exec
  have hb := B.bytes
  have hr := B.returns
  have hts := atoms_spec (ws := wsX2_take) B.pre
  have hown : s.vm.findClass RX2 = some m.cls := findClass_of_methodNamed B.named
  have hlocks := B.notSynchronized
  have hsz0 : (8 : Nat) < 2 ^ 31 := by decide
  have hsz1 : (80 : Nat) < 2 ^ 31 := by decide
  subst hsz
  have hD := hND.self (sz := s.heap.size)
  generalize hAe : va_A (W2 k h a c C n0 M ds n1 d) s.heap.size = A at hD ⊢
  have hA : ∀ q : Nat, s.heap.size ≤ q → A q := fun q h => by rw [← hAe]; exact Or.inr h
  have hS : va_S A s.heap s.heap [] := va_S.rf
  have hND0 : va_D (fun _ => True) (W0 k a C n0) := hND.sub [1, 2, 3, 4, 5, 6, 7] (by decide) rfl
  have hND1 : va_D (fun _ => True) (W1 k c M ds n1) := hND.sub [8, 9, 10, 11, 12, 13, 14, 15, 16, 17, 18, 19] (by decide) rfl
  have hinX2 : ∀ w ∈ u_ws RX2 TX2 3, w ∈ wsX2_take := by decide +kernel
  have fl19 := hts (.fieldLink RX2 19 "DunningDesk" "messages" "LDunningDesk$MessageBook;") (by decide +kernel)
  have fl23 := hts (.fieldLink RX2 23 "DunningDesk" "today" "I") (by decide +kernel)
  have hl := lv_entry [.ref h, .int u, .int q] (n := 4) (Nat.le_of_ble_eq_true rfl)
  rw [lg_entry_eq]
  generalize (lg_sl [.ref h, .int u, .int q] ++ List.replicate (4 - (lg_sl [.ref h, .int u, .int q]).length) Slot.unset).toArray = ls at hl ⊢
  have hl : lv_has ls 4 [(0, .ref h), (1, .int u), (2, .int q)] := hl
  refine lv_iload_n hx hb dX2_take_0 rfl (lv_at hl 1 rfl) ?_
  refine y_xvS (As := [.int u]) (rest := []) ⟨hx, hb, hml, hown, hts⟩ (c_X2_requireClerk l hl9 u ) (va_cwS 1 hts gX2_take_X2_requireClerk rfl rfl rfl (by decide +kernel) ⟨Nat.le_of_ble_eq_true rfl, Nat.le_of_ble_eq_true rfl⟩) hE rfl hl.1 rfl (Nat.le_of_ble_eq_true rfl) dX2_take_1 ⟨Nat.le_of_ble_eq_true rfl, Nat.le_of_ble_eq_true rfl⟩ ht hlocks (fun E h9 => Or.inl (⟨h9.1, by unfold o_takeC; (all_goals try first | rw [if_pos h9.2] | rw [if_neg h9.2]); (all_goals try simp only [clI (show j < 80 by omega)]); (all_goals try rfl)⟩)) ⟨Nat.le_of_ble_eq_true rfl, Nat.le_of_ble_eq_true rfl⟩ (fun hr9 => ?_)
  have c1 := hr9
  refine lv_iload_n hx hb dX2_take_4 rfl (lv_at hl 2 rfl) ?_
  refine y_xvS (As := [.int q]) (rest := []) ⟨hx, hb, hml, hown, hts⟩ (c_X2_requireQueue l hl9 q ) (va_cwS 1 hts gX2_take_X2_requireQueue rfl rfl rfl (by decide +kernel) ⟨Nat.le_of_ble_eq_true rfl, Nat.le_of_ble_eq_true rfl⟩) hE rfl hl.1 rfl (Nat.le_of_ble_eq_true rfl) dX2_take_5 ⟨Nat.le_of_ble_eq_true rfl, Nat.le_of_ble_eq_true rfl⟩ ht hlocks (fun E h9 => Or.inl (⟨h9.1, by unfold o_takeC; (all_goals try first | rw [if_pos c1] | rw [if_neg c1]); (all_goals try simp only [clI (show j < 80 by omega)]); (all_goals try first | rw [if_pos h9.2] | rw [if_neg h9.2]); (all_goals try simp only [clI (show j < 80 by omega)]); (all_goals try rfl)⟩)) ⟨Nat.le_of_ble_eq_true rfl, Nat.le_of_ble_eq_true rfl⟩ (fun hr9 => ?_)
  have c5 := hr9
  refine lv_aload_n hx hb dX2_take_8 rfl (lv_at hl 0 rfl) ?_
  refine va_get (D := G) (ci := 4) (v := .ref (c 0)) (C := RX2) (T := TX2) (N := 3) hx hb hts hinX2 hown hK hP 0 rfl rfl 1 (by decide) fl19 (fun _ h9 => h9) rfl dX2_take_9 ?_
  refine lv_iload_n hx hb dX2_take_12 rfl (lv_at hl 1 rfl) ?_
  refine y_roVN (As := [.int u]) (rest := []) ⟨hx, hb, hml, hown, hts⟩ (c_X1_countTakenBy l G k c M ds n1 u (by omega)) ⟨va_cnB (host := "DunningDesk") 1 hts gX2_take_X1_countTakenBy_n158 rfl rfl rfl (hE.1 (.methodLinkNest RX2 158 yX1_countTakenBy "DunningDesk") (by decide +kernel)) (hts (.initialized RX1) (by decide +kernel)) (by decide +kernel) ⟨Nat.le_of_ble_eq_true rfl, Nat.le_of_ble_eq_true rfl⟩, hts (.instanceMethod yX1_countTakenBy) (by decide +kernel), hts (.selects RX1 yX1_countTakenBy yX1_countTakenBy) (by decide +kernel)⟩ hK (P21 hP) (va_recv hK (P21 hP) (ci := 3) (q0 := 0) rfl rfl) rfl hl.1 rfl (Nat.le_of_ble_eq_true rfl) dX2_take_13 ⟨Nat.le_of_ble_eq_true rfl, Nat.le_of_ble_eq_true rfl⟩ (fun r hr9 => ?_)
  subst hr9
  have hcn := cnt_le (fun z => decide (M 5 z = 116 ∧ M 8 z = u)) n1 0 0
  refine lv_iconst (v := 2) hx hb dX2_take_16 (by decide) ?_
  refine lv_icmp_lt (tgt := 30) hx hb dX2_take_17 (by decide) (fun c17 => ?_) (fun c17 => ?_)
  · replace c17 : ¬ 2 ≤ cnt (fun z => decide (tkn M u z)) n1 0 0 := (show ¬ 2 ≤ cnt (fun z => decide (M 5 z = 116 ∧ M 8 z = u)) n1 0 0 by have := (nI_ltI (b := 2) (by omega) (by omega)).mp c17; omega)
    refine lv_aload_n hx hb dX2_take_30 rfl (lv_at hl 0 rfl) ?_
    refine va_get (D := G) (ci := 4) (v := .ref (c 0)) (C := RX2) (T := TX2) (N := 3) hx hb hts hinX2 hown hK hP 0 rfl rfl 1 (by decide) fl19 (fun _ h9 => h9) rfl dX2_take_31 ?_
    refine lv_iload_n hx hb dX2_take_34 rfl (lv_at hl 2 rfl) ?_
    refine lv_aload_n hx hb dX2_take_35 rfl (lv_at hl 0 rfl) ?_
    refine va_get (D := G) (ci := 4) (v := .int (nI d)) (C := RX2) (T := TX2) (N := 3) hx hb hts hinX2 hown hK hP 0 rfl rfl 2 (by decide) fl23 (fun _ h9 => h9) rfl dX2_take_36 ?_
    refine lv_iconst (v := (-1)) hx hb dX2_take_39 (by decide) ?_
    refine y_roVN (As := [.int q, .int (nI d), .int (-1)]) (rest := []) ⟨hx, hb, hml, hown, hts⟩ (c_X1_nextReady l G k c M ds n1 q (nI d) none (by omega) (fun z h => nomatch h)) ⟨va_cnB (host := "DunningDesk") 3 hts gX2_take_X1_nextReady_n151 rfl rfl rfl (hE.1 (.methodLinkNest RX2 151 yX1_nextReady "DunningDesk") (by decide +kernel)) (hts (.initialized RX1) (by decide +kernel)) (by decide +kernel) ⟨Nat.le_of_ble_eq_true rfl, Nat.le_of_ble_eq_true rfl⟩, hts (.instanceMethod yX1_nextReady) (by decide +kernel), hts (.selects RX1 yX1_nextReady yX1_nextReady) (by decide +kernel)⟩ hK (P21 hP) (va_recv hK (P21 hP) (ci := 3) (q0 := 0) rfl rfl) rfl hl.1 rfl (Nat.le_of_ble_eq_true rfl) dX2_take_40 ⟨Nat.le_of_ble_eq_true rfl, Nat.le_of_ble_eq_true rfl⟩ (fun r hr9 => ?_)
    subst hr9
    refine lv_istore_n (lv' := [(3, .int (oI (nxt M q (nI d) none n1 0 none))), (0, .ref h), (1, .int u), (2, .int q)]) hx hb dX2_take_43 rfl hl (by decide) rfl (fun ls hl => ?_)
    refine lv_iload_n hx hb dX2_take_44 rfl (lv_at hl 0 rfl) ?_
    refine lv_iconst (v := (-1)) hx hb dX2_take_45 (by decide) ?_
    refine lv_icmp_ne (tgt := 59) hx hb dX2_take_46 (by decide) (fun c46 => ?_) (fun c46 => ?_)
    · obtain ⟨j, ej⟩ := oI_some c46
      have hj := nxt_lt (o := none) (fun z hz => nomatch hz) ej
      rw [ej] at hl
      refine lv_aload_n hx hb dX2_take_59 rfl (lv_at hl 1 rfl) ?_
      refine va_get (D := G) (ci := 4) (v := .ref (c 0)) (C := RX2) (T := TX2) (N := 3) hx hb hts hinX2 hown hK hP 0 rfl rfl 1 (by decide) fl19 (fun _ h9 => h9) rfl dX2_take_60 ?_
      refine lv_iload_n hx hb dX2_take_63 rfl (lv_at hl 2 rfl) ?_
      refine lv_iload_n hx hb dX2_take_64 rfl (lv_at hl 0 rfl) ?_
      refine lv_aload_n hx hb dX2_take_65 rfl (lv_at hl 1 rfl) ?_
      refine va_get (D := G) (ci := 4) (v := .int (nI d)) (C := RX2) (T := TX2) (N := 3) hx hb hts hinX2 hown hK hP 0 rfl rfl 2 (by decide) fl23 (fun _ h9 => h9) rfl dX2_take_66 ?_
      have hfr9 : ∀ q, va_A (W1 k c M ds n1) _ q → A q := va_free hD hS hA [8, 9, 10, 11, 12, 13, 14, 15, 16, 17, 18, 19] rfl
      refine y_rvVN (w := W1 k c M ds n1) (w' := fun (_ : Unit) => W1 k c (w2 (w2 (w2 M 5 j 116) 8 j u) 9 j (nI d)) ds n1) (As := [.int u, .int (nI j), .int (nI d)]) (rest := []) ⟨hx, hb, hml, hown, hts⟩ (c_X1_giveTo l G k c M ds n1 _ u j (nI d) (yD hND1 rfl) (by omega)) ⟨va_cnB (host := "DunningDesk") 3 hts gX2_take_X1_giveTo_n165 rfl rfl rfl (hE.1 (.methodLinkNest RX2 165 yX1_giveTo "DunningDesk") (by decide +kernel)) (hts (.initialized RX1) (by decide +kernel)) (by decide +kernel) ⟨Nat.le_of_ble_eq_true rfl, Nat.le_of_ble_eq_true rfl⟩, hts (.instanceMethod yX1_giveTo) (by decide +kernel), hts (.selects RX1 yX1_giveTo yX1_giveTo) (by decide +kernel)⟩ hK (P21 hP) (va_recv hK (P21 hP) (ci := 3) (q0 := 0) rfl rfl) hS hfr9 rfl hl.1 rfl (Nat.le_of_ble_eq_true rfl) dX2_take_69 ⟨Nat.le_of_ble_eq_true rfl, Nat.le_of_ble_eq_true rfl⟩ (fun u9 H1 locs1 hr9 hP9 hz9 hk9 hS9 => ?_)
      have hP9 : va_P G vwCl (W2 k h a c C n0 (w2 (w2 (w2 M 5 j 116) 8 j u) 9 j (nI d)) ds n1 d) H1 := J21 hP hD hfr9 hk9 hP9
      have hD9 : va_D A (W2 k h a c C n0 (w2 (w2 (w2 M 5 j 116) 8 j u) 9 j (nI d)) ds n1 d) := yD hD rfl
      clear hP hD hS hfr9 hz9 hk9
      have hP := hP9
      have hD := hD9
      have hS := hS9
      clear hP9 hD9 hS9
      refine lv_iload_n hx hb dX2_take_72 rfl (lv_at hl 0 rfl) ?_
      refine W.widen (k := 3) (n := 18) (by decide) (by decide) ?_
      have hPf : va_P G vwCl (W2 k h a c C n0 ((o_takeC u q M n1 d).2.2) ds n1 d) H1 := by unfold o_takeC; rw [if_pos c1, if_pos c5, if_neg c17, ej]; exact hP
      exact vx_ret (W.iret (v := (nI j)) hx hb hr (fun τ hτ hW => ⟨⟨_, (), rfl, (by unfold o_takeC; rw [if_pos c1, if_pos c5, if_neg c17, ej]; exact ⟨rfl, rfl⟩), yPt hPf hτ⟩, hS.F hτ⟩) hS.2.2 dX2_take_73)
    · replace c46 : nxt M q (nI d) none n1 0 none = none := oI_none (fun z h => by have := nxt_lt (o := none) (fun z hz => nomatch hz) h; omega) c46
      exact y_thrN (rest := []) (is := 163) (text := "no message waits and is ready") hx hb hl9 hts hE hown (by decide +kernel) (by decide +kernel) (by decide +kernel) (by decide +kernel) (hl.1.trans hml.symm) dX2_take_49 dX2_take_52 dX2_take_53 dX2_take_55 dX2_take_58 ht ⟨Nat.le_of_ble_eq_true rfl, Nat.le_of_ble_eq_true rfl, Nat.le_of_ble_eq_true rfl, Nat.le_of_ble_eq_true rfl⟩ hlocks (by exact Or.inr (Or.inr ⟨rfl, by unfold o_takeC; rw [if_pos c1, if_pos c5, if_neg c17, c46]; rfl⟩)) ⟨Nat.le_of_ble_eq_true rfl, Nat.le_of_ble_eq_true rfl⟩
  · replace c17 : 2 ≤ cnt (fun z => decide (tkn M u z)) n1 0 0 := (show 2 ≤ cnt (fun z => decide (M 5 z = 116 ∧ M 8 z = u)) n1 0 0 from Nat.not_lt.mp (fun h9 => c17 ((nI_ltI (b := 2) (by omega) (by omega)).mpr h9)))
    exact y_thr (rest := []) (ik := 42) (is := 161) (ic := 46) (cls := "java/lang/IllegalStateException") (text := "the clerk has 2 messages") hx hb hl9 hts hE hown (by decide) (by decide +kernel) (by decide +kernel) (by decide +kernel) (by decide +kernel) yat_ISE yot_ISE (hl.1.trans hml.symm) dX2_take_20 dX2_take_23 dX2_take_24 dX2_take_26 dX2_take_29 ht ⟨Nat.le_of_ble_eq_true rfl, Nat.le_of_ble_eq_true rfl, Nat.le_of_ble_eq_true rfl, Nat.le_of_ble_eq_true rfl⟩ hlocks (by exact Or.inr (Or.inl ⟨rfl, by unfold o_takeC; rw [if_pos c1, if_pos c5, if_pos c17]⟩)) ⟨Nat.le_of_ble_eq_true rfl, Nat.le_of_ble_eq_true rfl⟩

set_option maxHeartbeats 4000000 in
set_option maxRecDepth 100000 in
theorem c_X2_finish (l : Launch) (hl9 : l.stackTraces = false) (G : va_G) (k : Nat → ClassId) (h : Nat) (a : Nat → Nat) (c : Nat → Nat) (C : Nat → Nat → Int32) (n0 : Nat) (M : Nat → Nat → Int32) (ds : Nat) (n1 : Nat) (d : Nat) (sz : Nat) (x : Int32) (hND : va_D (fun _ => True) (W2 k h a c C n0 M ds n1 d)) (hn : n0 ≤ 8) (hn1 : n1 ≤ 80) (hcs : ∀ z, z < n1 → M 5 z = 116 → ∃ q, q < n0 ∧ M 3 z = nI q) (hw : ∀ z, z < n0 → C 4 z = 0 ∨ C 4 z = 1) (hds : ∀ z, z < n1 → M 5 z = 116 → ds < 80) : vx_Met l yX2_finish wsX2_finish ({ frames := 7, cells := 2, slots := 12, locals := 112 }) (va_Pc [.ref h, .int x] (yEs G (yT k) (W2 k h a c C n0 M ds n1 d) sz)) (va_Qi (fun (r : Int32) (_ : Unit) => (o_finishC x C M ds n1).1 = 0 ∧ r = (o_finishC x C M ds n1).2.1) (fun _ τ => va_P G vwCl (W2 k h a c ((o_finishC x C M ds n1).2.2.1) n0 ((o_finishC x C M ds n1).2.2.2.1) ((o_finishC x C M ds n1).2.2.2.2) n1 d) τ.heap) (va_A (W2 k h a c C n0 M ds n1 d) sz)) (yX (fun E => (E = "java/lang/IndexOutOfBoundsException" ∧ (o_finishC x C M ds n1).1 = 1) ∨ (E = "java/lang/IllegalStateException" ∧ (o_finishC x C M ds n1).1 = 2))) 2 12 (va_A (W2 k h a c C n0 M ds n1 d) sz) := by
  refine vx_ofW (cc := cX2_finish) (maxL := 2) (ret := (some .boolean)) (by decide) rfl ?_
  intro p e s m args below meth c_ s₁ B hml ht hv
  obtain ⟨rfl, hsz, hP, hK, hE⟩ := hv
  have hE : yEV0 s s.heap := hE
  have hx := B.exec
  have hb := B.bytes
  have hr := B.returns
  have hts := atoms_spec (ws := wsX2_finish) B.pre
  have hown : s.vm.findClass RX2 = some m.cls := findClass_of_methodNamed B.named
  have hlocks := B.notSynchronized
  have hsz0 : (8 : Nat) < 2 ^ 31 := by decide
  have hsz1 : (80 : Nat) < 2 ^ 31 := by decide
  subst hsz
  have hD := hND.self (sz := s.heap.size)
  generalize hAe : va_A (W2 k h a c C n0 M ds n1 d) s.heap.size = A at hD ⊢
  have hA : ∀ q : Nat, s.heap.size ≤ q → A q := fun q h => by rw [← hAe]; exact Or.inr h
  have hS : va_S A s.heap s.heap [] := va_S.rf
  have hND0 : va_D (fun _ => True) (W0 k a C n0) := hND.sub [1, 2, 3, 4, 5, 6, 7] (by decide) rfl
  have hND1 : va_D (fun _ => True) (W1 k c M ds n1) := hND.sub [8, 9, 10, 11, 12, 13, 14, 15, 16, 17, 18, 19] (by decide) rfl
  have hinX2 : ∀ w ∈ u_ws RX2 TX2 3, w ∈ wsX2_finish := by decide +kernel
  have fl19 := hts (.fieldLink RX2 19 "DunningDesk" "messages" "LDunningDesk$MessageBook;") (by decide +kernel)
  have hl := lv_entry [.ref h, .int x] (n := 2) (Nat.le_of_ble_eq_true rfl)
  rw [lg_entry_eq]
  generalize (lg_sl [.ref h, .int x] ++ List.replicate (2 - (lg_sl [.ref h, .int x]).length) Slot.unset).toArray = ls at hl ⊢
  have hl : lv_has ls 2 [(0, .ref h), (1, .int x)] := hl
  refine lv_aload_n hx hb dX2_finish_0 rfl (lv_at hl 0 rfl) ?_
  refine lv_iload_n hx hb dX2_finish_1 rfl (lv_at hl 1 rfl) ?_
  refine y_xvV (As := [.int x]) (rest := []) ⟨hx, hb, hml, hown, hts⟩ (c_X2_requireMessage l hl9 G k h a c C n0 M ds n1 d x (by omega)) (cwV 1 hts gX2_finish_X2_requireMessage rfl rfl rfl (by decide +kernel) ⟨Nat.le_of_ble_eq_true rfl, Nat.le_of_ble_eq_true rfl⟩) hE hK hP (va_recv hK hP (ci := 4) (q0 := 0) rfl rfl) rfl hl.1 rfl (Nat.le_of_ble_eq_true rfl) dX2_finish_2 ⟨Nat.le_of_ble_eq_true rfl, Nat.le_of_ble_eq_true rfl⟩ ht hlocks (fun E h9 => Or.inl (⟨h9.1, by unfold o_finishC; (all_goals try first | rw [if_pos h9.2] | rw [if_neg h9.2]); (all_goals try simp only [clI (show j < 80 by omega)]); (all_goals try rfl)⟩)) ⟨Nat.le_of_ble_eq_true rfl, Nat.le_of_ble_eq_true rfl⟩ (fun hr9 => ?_)
  have c2 : inR x n1 := hr9
  obtain ⟨j, hj, rfl⟩ := inR_of (by omega) c2
  refine lv_aload_n hx hb dX2_finish_5 rfl (lv_at hl 0 rfl) ?_
  refine lv_iload_n hx hb dX2_finish_6 rfl (lv_at hl 1 rfl) ?_
  refine lv_bipush (v := 116) hx hb dX2_finish_7 (by decide) ?_
  refine y_xvV (As := [.int (nI j), .int 116]) (rest := []) ⟨hx, hb, hml, hown, hts⟩ (c_X2_requireState l hl9 G k h a c C n0 M ds n1 d j 116 (by omega)) (cwV 2 hts gX2_finish_X2_requireState rfl rfl rfl (by decide +kernel) ⟨Nat.le_of_ble_eq_true rfl, Nat.le_of_ble_eq_true rfl⟩) hE hK hP (va_recv hK hP (ci := 4) (q0 := 0) rfl rfl) rfl hl.1 rfl (Nat.le_of_ble_eq_true rfl) dX2_finish_9 ⟨Nat.le_of_ble_eq_true rfl, Nat.le_of_ble_eq_true rfl⟩ ht hlocks (fun E h9 => Or.inr (⟨h9.1, by unfold o_finishC; (all_goals try first | rw [if_pos c2] | rw [if_neg c2]); (all_goals try simp only [clI (show j < 80 by omega)]); (all_goals try first | rw [if_pos h9.2] | rw [if_neg h9.2]); (all_goals try simp only [clI (show j < 80 by omega)]); (all_goals try rfl)⟩)) ⟨Nat.le_of_ble_eq_true rfl, Nat.le_of_ble_eq_true rfl⟩ (fun hr9 => ?_)
  have c9 := hr9
  refine lv_aload_n hx hb dX2_finish_12 rfl (lv_at hl 0 rfl) ?_
  refine va_get (D := G) (ci := 4) (v := .ref (c 0)) (C := RX2) (T := TX2) (N := 3) hx hb hts hinX2 hown hK hP 0 rfl rfl 1 (by decide) fl19 (fun _ h9 => h9) rfl dX2_finish_13 ?_
  refine lv_iload_n hx hb dX2_finish_16 rfl (lv_at hl 1 rfl) ?_
  have hfr9 : ∀ q, va_A (W1 k c M ds n1) _ q → A q := va_free hD hS hA [8, 9, 10, 11, 12, 13, 14, 15, 16, 17, 18, 19] rfl
  refine y_rvVN (w := W1 k c M ds n1) (w' := fun (_ : Unit) => W1 k c (w2 (w2 M 5 j 100) 10 ds (nI j)) (ds + 1) n1) (As := [.int (nI j)]) (rest := []) ⟨hx, hb, hml, hown, hts⟩ (c_X1_close l G k c M ds n1 _ j (yD hND1 rfl) (by omega) (hds j hj c9)) ⟨va_cnB (host := "DunningDesk") 1 hts gX2_finish_X1_close_n169 rfl rfl rfl (hE.1 (.methodLinkNest RX2 169 yX1_close "DunningDesk") (by decide +kernel)) (hts (.initialized RX1) (by decide +kernel)) (by decide +kernel) ⟨Nat.le_of_ble_eq_true rfl, Nat.le_of_ble_eq_true rfl⟩, hts (.instanceMethod yX1_close) (by decide +kernel), hts (.selects RX1 yX1_close yX1_close) (by decide +kernel)⟩ hK (P21 hP) (va_recv hK (P21 hP) (ci := 3) (q0 := 0) rfl rfl) hS hfr9 rfl hl.1 rfl (Nat.le_of_ble_eq_true rfl) dX2_finish_17 ⟨Nat.le_of_ble_eq_true rfl, Nat.le_of_ble_eq_true rfl⟩ (fun u9 H1 locs1 hr9 hP9 hz9 hk9 hS9 => ?_)
  have hP9 : va_P G vwCl (W2 k h a c C n0 (w2 (w2 M 5 j 100) 10 ds (nI j)) (ds + 1) n1 d) H1 := J21 hP hD hfr9 hk9 hP9
  have hD9 : va_D A (W2 k h a c C n0 (w2 (w2 M 5 j 100) 10 ds (nI j)) (ds + 1) n1 d) := yD hD rfl
  clear hP hD hS hfr9 hz9 hk9
  have hP := hP9
  have hD := hD9
  have hS := hS9
  clear hP9 hD9 hS9
  obtain ⟨cc9, hcc, ec⟩ := hcs j hj c9
  refine lv_aload_n hx hb dX2_finish_20 rfl (lv_at hl 0 rfl) ?_
  refine lv_iload_n hx hb dX2_finish_21 rfl (lv_at hl 1 rfl) ?_
  have hfr9 : ∀ q, va_A (W2 k h a c C n0 (w2 (w2 M 5 j 100) 10 ds (nI j)) (ds + 1) n1 d) _ q → A q := va_free hD hS hA [0, 1, 2, 3, 4, 5, 6, 7, 8, 9, 10, 11, 12, 13, 14, 15, 16, 17, 18, 19] rfl
  refine y_weV hE.1 (w := W2 k h a c C n0 (w2 (w2 M 5 j 100) 10 ds (nI j)) (ds + 1) n1 d) (w' := fun (_ : Unit) => W2 k h a c ((fin3C j cc9 C (w2 (w2 M 5 j 100) 10 ds (nI j))).2) n0 (w2 (w2 M 5 j 100) 10 ds (nI j)) (ds + 1) n1 d) (As := [.int (nI j)]) (rest := []) ⟨hx, hb, hml, hown, hts⟩ (c_X2_settle l G k h a c C n0 (w2 (w2 M 5 j 100) 10 ds (nI j)) (ds + 1) n1 d _ j cc9 (yD hND rfl) (by omega) (by omega) hcc ec (hw cc9 hcc)) (cwV 1 hts gX2_finish_X2_settle rfl rfl rfl (by decide +kernel) ⟨Nat.le_of_ble_eq_true rfl, Nat.le_of_ble_eq_true rfl⟩) hK hP (va_recv hK hP (ci := 4) (q0 := 0) rfl rfl) hS hfr9 rfl hl.1 rfl (Nat.le_of_ble_eq_true rfl) dX2_finish_22 ⟨Nat.le_of_ble_eq_true rfl, Nat.le_of_ble_eq_true rfl⟩ (fun r u9 H1 locs1 hr9 hP9 hz9 hk9 hS9 => ?_)
  have hP9 : va_P G vwCl (W2 k h a c ((fin3C j cc9 C (w2 (w2 M 5 j 100) 10 ds (nI j))).2) n0 (w2 (w2 M 5 j 100) 10 ds (nI j)) (ds + 1) n1 d) H1 := hP9
  have hD9 : va_D A (W2 k h a c ((fin3C j cc9 C (w2 (w2 M 5 j 100) 10 ds (nI j))).2) n0 (w2 (w2 M 5 j 100) 10 ds (nI j)) (ds + 1) n1 d) := yD hD rfl
  clear hP hD hS hfr9 hz9 hk9
  have hP := hP9
  have hD := hD9
  have hS := hS9
  clear hP9 hD9 hS9
  subst hr9
  refine W.widen (k := 2) (n := 12) (by decide) (by decide) ?_
  have hPf : va_P G vwCl (W2 k h a c ((o_finishC (nI j) C M ds n1).2.2.1) n0 ((o_finishC (nI j) C M ds n1).2.2.2.1) ((o_finishC (nI j) C M ds n1).2.2.2.2) n1 d) H1 := by unfold o_finishC; rw [if_pos c2]; simp only [clI (show j < 80 by omega)]; rw [if_pos c9, ec]; simp only [clI (show cc9 < 80 by omega)]; exact hP
  exact vx_ret (W.zret (v := ((fin3C j cc9 C (w2 (w2 M 5 j 100) 10 ds (nI j))).1)) hx hb hr (b2_n9 (fin3C_01 (hw cc9 hcc))) (fun τ hτ hW => ⟨⟨_, (), rfl, (by unfold o_finishC; rw [if_pos c2]; simp only [clI (show j < 80 by omega)]; rw [if_pos c9, ec]; simp only [clI (show cc9 < 80 by omega)]; first | exact ⟨rfl, rfl⟩ | exact ⟨trivial, rfl⟩), yPt hPf hτ⟩, hS.F hτ⟩) hS.2.2 dX2_finish_25)

set_option maxHeartbeats 4000000 in
set_option maxRecDepth 100000 in
theorem c_X2_handBack (l : Launch) (hl9 : l.stackTraces = false) (G : va_G) (k : Nat → ClassId) (h : Nat) (a : Nat → Nat) (c : Nat → Nat) (C : Nat → Nat → Int32) (n0 : Nat) (M : Nat → Nat → Int32) (ds : Nat) (n1 : Nat) (d : Nat) (sz : Nat) (x : Int32) (hND : va_D (fun _ => True) (W2 k h a c C n0 M ds n1 d)) (hn1 : n1 ≤ 80) : vx_Met l yX2_handBack wsX2_handBack ({ frames := 7, cells := 2, slots := 12, locals := 112 }) (va_Pc [.ref h, .int x] (yEs G (yT k) (W2 k h a c C n0 M ds n1 d) sz)) (va_Qi (fun (r : Int32) (_ : Unit) => (o_handBackC x M n1 d).1 = 0 ∧ r = (o_handBackC x M n1 d).2.1) (fun _ τ => va_P G vwCl (W2 k h a c C n0 ((o_handBackC x M n1 d).2.2) ds n1 d) τ.heap) (va_A (W2 k h a c C n0 M ds n1 d) sz)) (yX (fun E => (E = "java/lang/IndexOutOfBoundsException" ∧ (o_handBackC x M n1 d).1 = 1) ∨ (E = "java/lang/IllegalStateException" ∧ (o_handBackC x M n1 d).1 = 2))) 2 12 (va_A (W2 k h a c C n0 M ds n1 d) sz) := by
  refine vx_ofW (cc := cX2_handBack) (maxL := 2) (ret := (some .int)) (by decide) rfl ?_
  intro p e s m args below meth c_ s₁ B hml ht hv
  obtain ⟨rfl, hsz, hP, hK, hE⟩ := hv
  have hE : yEV0 s s.heap := hE
  have hx := B.exec
  have hb := B.bytes
  have hr := B.returns
  have hts := atoms_spec (ws := wsX2_handBack) B.pre
  have hown : s.vm.findClass RX2 = some m.cls := findClass_of_methodNamed B.named
  have hlocks := B.notSynchronized
  have hsz0 : (8 : Nat) < 2 ^ 31 := by decide
  have hsz1 : (80 : Nat) < 2 ^ 31 := by decide
  subst hsz
  have hD := hND.self (sz := s.heap.size)
  generalize hAe : va_A (W2 k h a c C n0 M ds n1 d) s.heap.size = A at hD ⊢
  have hA : ∀ q : Nat, s.heap.size ≤ q → A q := fun q h => by rw [← hAe]; exact Or.inr h
  have hS : va_S A s.heap s.heap [] := va_S.rf
  have hND0 : va_D (fun _ => True) (W0 k a C n0) := hND.sub [1, 2, 3, 4, 5, 6, 7] (by decide) rfl
  have hND1 : va_D (fun _ => True) (W1 k c M ds n1) := hND.sub [8, 9, 10, 11, 12, 13, 14, 15, 16, 17, 18, 19] (by decide) rfl
  have hinX1 : ∀ w ∈ u_ws RX1 TX1 13, w ∈ wsX2_handBack := by decide +kernel
  have hinX2 : ∀ w ∈ u_ws RX2 TX2 3, w ∈ wsX2_handBack := by decide +kernel
  have fl19 := hts (.fieldLink RX2 19 "DunningDesk" "messages" "LDunningDesk$MessageBook;") (by decide +kernel)
  have fl23 := hts (.fieldLink RX2 23 "DunningDesk" "today" "I") (by decide +kernel)
  have hl := lv_entry [.ref h, .int x] (n := 2) (Nat.le_of_ble_eq_true rfl)
  rw [lg_entry_eq]
  generalize (lg_sl [.ref h, .int x] ++ List.replicate (2 - (lg_sl [.ref h, .int x]).length) Slot.unset).toArray = ls at hl ⊢
  have hl : lv_has ls 2 [(0, .ref h), (1, .int x)] := hl
  refine lv_aload_n hx hb dX2_handBack_0 rfl (lv_at hl 0 rfl) ?_
  refine lv_iload_n hx hb dX2_handBack_1 rfl (lv_at hl 1 rfl) ?_
  refine y_xvV (As := [.int x]) (rest := []) ⟨hx, hb, hml, hown, hts⟩ (c_X2_requireMessage l hl9 G k h a c C n0 M ds n1 d x (by omega)) (cwV 1 hts gX2_handBack_X2_requireMessage rfl rfl rfl (by decide +kernel) ⟨Nat.le_of_ble_eq_true rfl, Nat.le_of_ble_eq_true rfl⟩) hE hK hP (va_recv hK hP (ci := 4) (q0 := 0) rfl rfl) rfl hl.1 rfl (Nat.le_of_ble_eq_true rfl) dX2_handBack_2 ⟨Nat.le_of_ble_eq_true rfl, Nat.le_of_ble_eq_true rfl⟩ ht hlocks (fun E h9 => Or.inl (⟨h9.1, by unfold o_handBackC; (all_goals try first | rw [if_pos h9.2] | rw [if_neg h9.2]); (all_goals try simp only [clI (show j < 80 by omega)]); (all_goals try rfl)⟩)) ⟨Nat.le_of_ble_eq_true rfl, Nat.le_of_ble_eq_true rfl⟩ (fun hr9 => ?_)
  have c2 : inR x n1 := hr9
  obtain ⟨j, hj, rfl⟩ := inR_of (by omega) c2
  refine lv_aload_n hx hb dX2_handBack_5 rfl (lv_at hl 0 rfl) ?_
  refine lv_iload_n hx hb dX2_handBack_6 rfl (lv_at hl 1 rfl) ?_
  refine lv_bipush (v := 116) hx hb dX2_handBack_7 (by decide) ?_
  refine y_xvV (As := [.int (nI j), .int 116]) (rest := []) ⟨hx, hb, hml, hown, hts⟩ (c_X2_requireState l hl9 G k h a c C n0 M ds n1 d j 116 (by omega)) (cwV 2 hts gX2_handBack_X2_requireState rfl rfl rfl (by decide +kernel) ⟨Nat.le_of_ble_eq_true rfl, Nat.le_of_ble_eq_true rfl⟩) hE hK hP (va_recv hK hP (ci := 4) (q0 := 0) rfl rfl) rfl hl.1 rfl (Nat.le_of_ble_eq_true rfl) dX2_handBack_9 ⟨Nat.le_of_ble_eq_true rfl, Nat.le_of_ble_eq_true rfl⟩ ht hlocks (fun E h9 => Or.inr (⟨h9.1, by unfold o_handBackC; (all_goals try first | rw [if_pos c2] | rw [if_neg c2]); (all_goals try simp only [clI (show j < 80 by omega)]); (all_goals try first | rw [if_pos h9.2] | rw [if_neg h9.2]); (all_goals try simp only [clI (show j < 80 by omega)]); (all_goals try rfl)⟩)) ⟨Nat.le_of_ble_eq_true rfl, Nat.le_of_ble_eq_true rfl⟩ (fun hr9 => ?_)
  have c9 := hr9
  refine lv_aload_n hx hb dX2_handBack_12 rfl (lv_at hl 0 rfl) ?_
  refine va_get (D := G) (ci := 4) (v := .ref (c 0)) (C := RX2) (T := TX2) (N := 3) hx hb hts hinX2 hown hK hP 0 rfl rfl 1 (by decide) fl19 (fun _ h9 => h9) rfl dX2_handBack_13 ?_
  refine lv_iload_n hx hb dX2_handBack_16 rfl (lv_at hl 1 rfl) ?_
  refine lv_aload_n hx hb dX2_handBack_17 rfl (lv_at hl 0 rfl) ?_
  refine va_get (D := G) (ci := 4) (v := .int (nI d)) (C := RX2) (T := TX2) (N := 3) hx hb hts hinX2 hown hK hP 0 rfl rfl 2 (by decide) fl23 (fun _ h9 => h9) rfl dX2_handBack_18 ?_
  have hfr9 : ∀ q, va_A (W1 k c M ds n1) _ q → A q := va_free hD hS hA [8, 9, 10, 11, 12, 13, 14, 15, 16, 17, 18, 19] rfl
  refine y_rvVN (w := W1 k c M ds n1) (w' := fun (_ : Unit) => W1 k c (pb M j (nI d)) ds n1) (As := [.int (nI j), .int (nI d)]) (rest := []) ⟨hx, hb, hml, hown, hts⟩ (c_X1_putBack l G k c M ds n1 _ j (nI d) (yD hND1 rfl) (by omega)) ⟨va_cnB (host := "DunningDesk") 2 hts gX2_handBack_X1_putBack_n175 rfl rfl rfl (hE.1 (.methodLinkNest RX2 175 yX1_putBack "DunningDesk") (by decide +kernel)) (hts (.initialized RX1) (by decide +kernel)) (by decide +kernel) ⟨Nat.le_of_ble_eq_true rfl, Nat.le_of_ble_eq_true rfl⟩, hts (.instanceMethod yX1_putBack) (by decide +kernel), hts (.selects RX1 yX1_putBack yX1_putBack) (by decide +kernel)⟩ hK (P21 hP) (va_recv hK (P21 hP) (ci := 3) (q0 := 0) rfl rfl) hS hfr9 rfl hl.1 rfl (Nat.le_of_ble_eq_true rfl) dX2_handBack_21 ⟨Nat.le_of_ble_eq_true rfl, Nat.le_of_ble_eq_true rfl⟩ (fun u9 H1 locs1 hr9 hP9 hz9 hk9 hS9 => ?_)
  have hP9 : va_P G vwCl (W2 k h a c C n0 (pb M j (nI d)) ds n1 d) H1 := J21 hP hD hfr9 hk9 hP9
  have hD9 : va_D A (W2 k h a c C n0 (pb M j (nI d)) ds n1 d) := yD hD rfl
  clear hP hD hS hfr9 hz9 hk9
  have hP := hP9
  have hD := hD9
  have hS := hS9
  clear hP9 hD9 hS9
  refine lv_aload_n hx hb dX2_handBack_24 rfl (lv_at hl 0 rfl) ?_
  refine va_get (D := G) (ci := 4) (v := .ref (c 0)) (C := RX2) (T := TX2) (N := 3) hx hb hts hinX2 hown hK hP 0 rfl rfl 1 (by decide) fl19 (fun _ h9 => h9) rfl dX2_handBack_25 ?_
  refine va_getN (D := G) (ci := 3) (v := .ref (c 8)) (C := RX1) (T := TX1) (N := 13) (host := "DunningDesk") hx hb hts hinX1 hown hK hP 8 rfl rfl 7 (by decide) (va_Nw.use rfl (hE.1 (.fieldLinkNest RX2 136 "DunningDesk$MessageBook" "triesMade" "[I" "DunningDesk") (by decide +kernel))) (fun _ h9 => h9) rfl dX2_handBack_28 ?_
  refine lv_iload_n hx hb dX2_handBack_31 rfl (lv_at hl 1 rfl) ?_
  refine y_iald hx hb hK hP 16 0 rfl rfl (j := j) (by omega) hsz1 dX2_handBack_32 ?_
  refine y_top (pb_7) ?_
  refine W.widen (k := 2) (n := 12) (by decide) (by decide) ?_
  have hPf : va_P G vwCl (W2 k h a c C n0 ((o_handBackC (nI j) M n1 d).2.2) ds n1 d) H1 := by unfold o_handBackC; (all_goals try first | rw [if_pos c2] | rw [if_neg c2]); (all_goals try simp only [clI (show j < 80 by omega)]); (all_goals try first | rw [if_pos c9] | rw [if_neg c9]); (all_goals try simp only [clI (show j < 80 by omega)]); exact hP
  exact vx_ret (W.iret (v := (M 7 j + 1)) hx hb hr (fun τ hτ hW => ⟨⟨_, (), rfl, (by exact ⟨by unfold o_handBackC; (all_goals try first | rw [if_pos c2] | rw [if_neg c2]); (all_goals try simp only [clI (show j < 80 by omega)]); (all_goals try first | rw [if_pos c9] | rw [if_neg c9]); (all_goals try simp only [clI (show j < 80 by omega)]); (all_goals try rfl), by unfold o_handBackC; (all_goals try first | rw [if_pos c2] | rw [if_neg c2]); (all_goals try simp only [clI (show j < 80 by omega)]); (all_goals try first | rw [if_pos c9] | rw [if_neg c9]); (all_goals try simp only [clI (show j < 80 by omega)]); (all_goals try rfl)⟩), yPt hPf hτ⟩, hS.F hτ⟩) hS.2.2 dX2_handBack_33)

set_option maxHeartbeats 4000000 in
set_option maxRecDepth 100000 in
theorem c_X2_revive (l : Launch) (hl9 : l.stackTraces = false) (G : va_G) (k : Nat → ClassId) (h : Nat) (a : Nat → Nat) (c : Nat → Nat) (C : Nat → Nat → Int32) (n0 : Nat) (M : Nat → Nat → Int32) (ds : Nat) (n1 : Nat) (d : Nat) (sz : Nat) (x : Int32) (hND : va_D (fun _ => True) (W2 k h a c C n0 M ds n1 d)) (hn1 : n1 ≤ 80) : vx_Met l yX2_revive wsX2_revive ({ frames := 7, cells := 2, slots := 12, locals := 112 }) (va_Pc [.ref h, .int x] (yEs G (yT k) (W2 k h a c C n0 M ds n1 d) sz)) (va_Qi (fun (r : Int32) (_ : Unit) => (o_revive x M n1 d).1 = 0 ∧ r = (o_revive x M n1 d).2.1) (fun _ τ => va_P G vwCl (W2 k h a c C n0 ((o_revive x M n1 d).2.2) ds n1 d) τ.heap) (va_A (W2 k h a c C n0 M ds n1 d) sz)) (yX (fun E => (E = "java/lang/IndexOutOfBoundsException" ∧ (o_revive x M n1 d).1 = 1) ∨ (E = "java/lang/IllegalStateException" ∧ (o_revive x M n1 d).1 = 2))) 2 12 (va_A (W2 k h a c C n0 M ds n1 d) sz) := by
  refine vx_ofW (cc := cX2_revive) (maxL := 2) (ret := (some .int)) (by decide) rfl ?_
  intro p e s m args below meth c_ s₁ B hml ht hv
  obtain ⟨rfl, hsz, hP, hK, hE⟩ := hv
  have hE : yEV0 s s.heap := hE
  have hx := B.exec
  have hb := B.bytes
  have hr := B.returns
  have hts := atoms_spec (ws := wsX2_revive) B.pre
  have hown : s.vm.findClass RX2 = some m.cls := findClass_of_methodNamed B.named
  have hlocks := B.notSynchronized
  have hsz0 : (8 : Nat) < 2 ^ 31 := by decide
  have hsz1 : (80 : Nat) < 2 ^ 31 := by decide
  subst hsz
  have hD := hND.self (sz := s.heap.size)
  generalize hAe : va_A (W2 k h a c C n0 M ds n1 d) s.heap.size = A at hD ⊢
  have hA : ∀ q : Nat, s.heap.size ≤ q → A q := fun q h => by rw [← hAe]; exact Or.inr h
  have hS : va_S A s.heap s.heap [] := va_S.rf
  have hND0 : va_D (fun _ => True) (W0 k a C n0) := hND.sub [1, 2, 3, 4, 5, 6, 7] (by decide) rfl
  have hND1 : va_D (fun _ => True) (W1 k c M ds n1) := hND.sub [8, 9, 10, 11, 12, 13, 14, 15, 16, 17, 18, 19] (by decide) rfl
  have hinX2 : ∀ w ∈ u_ws RX2 TX2 3, w ∈ wsX2_revive := by decide +kernel
  have fl19 := hts (.fieldLink RX2 19 "DunningDesk" "messages" "LDunningDesk$MessageBook;") (by decide +kernel)
  have fl23 := hts (.fieldLink RX2 23 "DunningDesk" "today" "I") (by decide +kernel)
  have hl := lv_entry [.ref h, .int x] (n := 2) (Nat.le_of_ble_eq_true rfl)
  rw [lg_entry_eq]
  generalize (lg_sl [.ref h, .int x] ++ List.replicate (2 - (lg_sl [.ref h, .int x]).length) Slot.unset).toArray = ls at hl ⊢
  have hl : lv_has ls 2 [(0, .ref h), (1, .int x)] := hl
  refine lv_aload_n hx hb dX2_revive_0 rfl (lv_at hl 0 rfl) ?_
  refine lv_iload_n hx hb dX2_revive_1 rfl (lv_at hl 1 rfl) ?_
  refine y_xvV (As := [.int x]) (rest := []) ⟨hx, hb, hml, hown, hts⟩ (c_X2_requireMessage l hl9 G k h a c C n0 M ds n1 d x (by omega)) (cwV 1 hts gX2_revive_X2_requireMessage rfl rfl rfl (by decide +kernel) ⟨Nat.le_of_ble_eq_true rfl, Nat.le_of_ble_eq_true rfl⟩) hE hK hP (va_recv hK hP (ci := 4) (q0 := 0) rfl rfl) rfl hl.1 rfl (Nat.le_of_ble_eq_true rfl) dX2_revive_2 ⟨Nat.le_of_ble_eq_true rfl, Nat.le_of_ble_eq_true rfl⟩ ht hlocks (fun E h9 => Or.inl (⟨h9.1, by unfold o_revive; (all_goals try first | rw [if_pos h9.2] | rw [if_neg h9.2]); (all_goals try simp only [clI (show j < 80 by omega)]); (all_goals try rfl)⟩)) ⟨Nat.le_of_ble_eq_true rfl, Nat.le_of_ble_eq_true rfl⟩ (fun hr9 => ?_)
  have c2 : inR x n1 := hr9
  obtain ⟨j, hj, rfl⟩ := inR_of (by omega) c2
  refine lv_aload_n hx hb dX2_revive_5 rfl (lv_at hl 0 rfl) ?_
  refine lv_iload_n hx hb dX2_revive_6 rfl (lv_at hl 1 rfl) ?_
  refine lv_bipush (v := 120) hx hb dX2_revive_7 (by decide) ?_
  refine y_xvV (As := [.int (nI j), .int 120]) (rest := []) ⟨hx, hb, hml, hown, hts⟩ (c_X2_requireState l hl9 G k h a c C n0 M ds n1 d j 120 (by omega)) (cwV 2 hts gX2_revive_X2_requireState rfl rfl rfl (by decide +kernel) ⟨Nat.le_of_ble_eq_true rfl, Nat.le_of_ble_eq_true rfl⟩) hE hK hP (va_recv hK hP (ci := 4) (q0 := 0) rfl rfl) rfl hl.1 rfl (Nat.le_of_ble_eq_true rfl) dX2_revive_9 ⟨Nat.le_of_ble_eq_true rfl, Nat.le_of_ble_eq_true rfl⟩ ht hlocks (fun E h9 => Or.inr (⟨h9.1, by unfold o_revive; (all_goals try first | rw [if_pos c2] | rw [if_neg c2]); (all_goals try simp only [clI (show j < 80 by omega)]); (all_goals try first | rw [if_pos h9.2] | rw [if_neg h9.2]); (all_goals try simp only [clI (show j < 80 by omega)]); (all_goals try rfl)⟩)) ⟨Nat.le_of_ble_eq_true rfl, Nat.le_of_ble_eq_true rfl⟩ (fun hr9 => ?_)
  have c9 := hr9
  refine lv_aload_n hx hb dX2_revive_12 rfl (lv_at hl 0 rfl) ?_
  refine va_get (D := G) (ci := 4) (v := .ref (c 0)) (C := RX2) (T := TX2) (N := 3) hx hb hts hinX2 hown hK hP 0 rfl rfl 1 (by decide) fl19 (fun _ h9 => h9) rfl dX2_revive_13 ?_
  refine lv_iload_n hx hb dX2_revive_16 rfl (lv_at hl 1 rfl) ?_
  refine lv_aload_n hx hb dX2_revive_17 rfl (lv_at hl 0 rfl) ?_
  refine va_get (D := G) (ci := 4) (v := .int (nI d)) (C := RX2) (T := TX2) (N := 3) hx hb hts hinX2 hown hK hP 0 rfl rfl 2 (by decide) fl23 (fun _ h9 => h9) rfl dX2_revive_18 ?_
  have hfr9 : ∀ q, va_A (W1 k c M ds n1) _ q → A q := va_free hD hS hA [8, 9, 10, 11, 12, 13, 14, 15, 16, 17, 18, 19] rfl
  refine y_rvVN (w := W1 k c M ds n1) (w' := fun (_ : Unit) => W1 k c (w2 (w2 (w2 M 5 j 119) 6 j (nI d)) 7 j 0) ds n1) (As := [.int (nI j), .int (nI d)]) (rest := []) ⟨hx, hb, hml, hown, hts⟩ (c_X1_wake l G k c M ds n1 _ j (nI d) (yD hND1 rfl) (by omega)) ⟨va_cnB (host := "DunningDesk") 2 hts gX2_revive_X1_wake_n178 rfl rfl rfl (hE.1 (.methodLinkNest RX2 178 yX1_wake "DunningDesk") (by decide +kernel)) (hts (.initialized RX1) (by decide +kernel)) (by decide +kernel) ⟨Nat.le_of_ble_eq_true rfl, Nat.le_of_ble_eq_true rfl⟩, hts (.instanceMethod yX1_wake) (by decide +kernel), hts (.selects RX1 yX1_wake yX1_wake) (by decide +kernel)⟩ hK (P21 hP) (va_recv hK (P21 hP) (ci := 3) (q0 := 0) rfl rfl) hS hfr9 rfl hl.1 rfl (Nat.le_of_ble_eq_true rfl) dX2_revive_21 ⟨Nat.le_of_ble_eq_true rfl, Nat.le_of_ble_eq_true rfl⟩ (fun u9 H1 locs1 hr9 hP9 hz9 hk9 hS9 => ?_)
  have hP9 : va_P G vwCl (W2 k h a c C n0 (w2 (w2 (w2 M 5 j 119) 6 j (nI d)) 7 j 0) ds n1 d) H1 := J21 hP hD hfr9 hk9 hP9
  have hD9 : va_D A (W2 k h a c C n0 (w2 (w2 (w2 M 5 j 119) 6 j (nI d)) 7 j 0) ds n1 d) := yD hD rfl
  clear hP hD hS hfr9 hz9 hk9
  have hP := hP9
  have hD := hD9
  have hS := hS9
  clear hP9 hD9 hS9
  refine lv_aload_n hx hb dX2_revive_24 rfl (lv_at hl 0 rfl) ?_
  refine va_get (D := G) (ci := 4) (v := .ref (c 0)) (C := RX2) (T := TX2) (N := 3) hx hb hts hinX2 hown hK hP 0 rfl rfl 1 (by decide) fl19 (fun _ h9 => h9) rfl dX2_revive_25 ?_
  refine lv_bipush (v := 120) hx hb dX2_revive_28 (by decide) ?_
  refine y_roVN (As := [.int 120]) (rest := []) ⟨hx, hb, hml, hown, hts⟩ (c_X1_countIn l G k c (w2 (w2 (w2 M 5 j 119) 6 j (nI d)) 7 j 0) ds n1 120 (by omega)) ⟨va_cnB (host := "DunningDesk") 1 hts gX2_revive_X1_countIn_n181 rfl rfl rfl (hE.1 (.methodLinkNest RX2 181 yX1_countIn "DunningDesk") (by decide +kernel)) (hts (.initialized RX1) (by decide +kernel)) (by decide +kernel) ⟨Nat.le_of_ble_eq_true rfl, Nat.le_of_ble_eq_true rfl⟩, hts (.instanceMethod yX1_countIn) (by decide +kernel), hts (.selects RX1 yX1_countIn yX1_countIn) (by decide +kernel)⟩ hK (P21 hP) (va_recv hK (P21 hP) (ci := 3) (q0 := 0) rfl rfl) rfl hl.1 rfl (Nat.le_of_ble_eq_true rfl) dX2_revive_30 ⟨Nat.le_of_ble_eq_true rfl, Nat.le_of_ble_eq_true rfl⟩ (fun r hr9 => ?_)
  subst hr9
  refine W.widen (k := 2) (n := 12) (by decide) (by decide) ?_
  have hPf : va_P G vwCl (W2 k h a c C n0 ((o_revive (nI j) M n1 d).2.2) ds n1 d) H1 := by unfold o_revive; (all_goals try first | rw [if_pos c2] | rw [if_neg c2]); (all_goals try simp only [clI (show j < 80 by omega)]); (all_goals try first | rw [if_pos c9] | rw [if_neg c9]); (all_goals try simp only [clI (show j < 80 by omega)]); exact hP
  exact vx_ret (W.iret (v := (nI (cnt (fun z => decide ((w2 (w2 (w2 M 5 j 119) 6 j (nI d)) 7 j 0) 5 z = 120)) n1 0 0))) hx hb hr (fun τ hτ hW => ⟨⟨_, (), rfl, (by exact ⟨by unfold o_revive; (all_goals try first | rw [if_pos c2] | rw [if_neg c2]); (all_goals try simp only [clI (show j < 80 by omega)]); (all_goals try first | rw [if_pos c9] | rw [if_neg c9]); (all_goals try simp only [clI (show j < 80 by omega)]); (all_goals try rfl), by unfold o_revive; (all_goals try first | rw [if_pos c2] | rw [if_neg c2]); (all_goals try simp only [clI (show j < 80 by omega)]); (all_goals try first | rw [if_pos c9] | rw [if_neg c9]); (all_goals try simp only [clI (show j < 80 by omega)]); (all_goals try rfl)⟩), yPt hPf hτ⟩, hS.F hτ⟩) hS.2.2 dX2_revive_33)

set_option maxHeartbeats 4000000 in
set_option maxRecDepth 100000 in
theorem c_X2_pass (l : Launch) (hl9 : l.stackTraces = false) (G : va_G) (k : Nat → ClassId) (h : Nat) (a : Nat → Nat) (c : Nat → Nat) (C : Nat → Nat → Int32) (n0 : Nat) (M : Nat → Nat → Int32) (ds : Nat) (n1 : Nat) (d : Nat) (sz : Nat) (dd : Int32) (hND : va_D (fun _ => True) (W2 k h a c C n0 M ds n1 d)) (hn : n0 ≤ 8) (hn1 : n1 ≤ 80) : vx_Met l yX2_pass wsX2_pass ({ frames := 6, cells := 1, slots := 6, locals := 90 }) (va_Pc [.ref h, .int dd] (yEs G (yT k) (W2 k h a c C n0 M ds n1 d) sz)) (va_Qi (fun (r : Int32) (_ : Unit) => (o_passC dd C n0 M n1 d).1 = 0 ∧ r = nI (o_passC dd C n0 M n1 d).2.1.1) (fun _ τ => va_P G vwCl (W2 k h a c C n0 ((o_passC dd C n0 M n1 d).2.1.2.1) ds ((o_passC dd C n0 M n1 d).2.1.2.2) ((o_passC dd C n0 M n1 d).2.2)) τ.heap) (va_A (W2 k h a c C n0 M ds n1 d) sz)) (yX (fun E => (E = "java/lang/IllegalArgumentException" ∧ (o_passC dd C n0 M n1 d).1 = 1))) 1 6 (va_A (W2 k h a c C n0 M ds n1 d) sz) := by
  refine vx_ofW (cc := cX2_pass) (maxL := 4) (ret := (some .int)) (by decide) rfl ?_
  intro p e s m args below meth c_ s₁ B hml ht hv
  obtain ⟨rfl, hsz, hP, hK, hE⟩ := hv
  have hE : yEV0 s s.heap := hE
  have hx := B.exec
  have hb := B.bytes
  have hr := B.returns
  have hts := atoms_spec (ws := wsX2_pass) B.pre
  have hown : s.vm.findClass RX2 = some m.cls := findClass_of_methodNamed B.named
  have hlocks := B.notSynchronized
  have hsz0 : (8 : Nat) < 2 ^ 31 := by decide
  have hsz1 : (80 : Nat) < 2 ^ 31 := by decide
  subst hsz
  have hD := hND.self (sz := s.heap.size)
  generalize hAe : va_A (W2 k h a c C n0 M ds n1 d) s.heap.size = A at hD ⊢
  have hA : ∀ q : Nat, s.heap.size ≤ q → A q := fun q h => by rw [← hAe]; exact Or.inr h
  have hS : va_S A s.heap s.heap [] := va_S.rf
  have hND0 : va_D (fun _ => True) (W0 k a C n0) := hND.sub [1, 2, 3, 4, 5, 6, 7] (by decide) rfl
  have hND1 : va_D (fun _ => True) (W1 k c M ds n1) := hND.sub [8, 9, 10, 11, 12, 13, 14, 15, 16, 17, 18, 19] (by decide) rfl
  have hinX2 : ∀ w ∈ u_ws RX2 TX2 3, w ∈ wsX2_pass := by decide +kernel
  have fl23 := hts (.fieldLink RX2 23 "DunningDesk" "today" "I") (by decide +kernel)
  have fl19 := hts (.fieldLink RX2 19 "DunningDesk" "messages" "LDunningDesk$MessageBook;") (by decide +kernel)
  have hl := lv_entry [.ref h, .int dd] (n := 4) (Nat.le_of_ble_eq_true rfl)
  rw [lg_entry_eq]
  generalize (lg_sl [.ref h, .int dd] ++ List.replicate (4 - (lg_sl [.ref h, .int dd]).length) Slot.unset).toArray = ls at hl ⊢
  have hl : lv_has ls 4 [(0, .ref h), (1, .int dd)] := hl
  refine lv_iload_n hx hb dX2_pass_0 rfl (lv_at hl 1 rfl) ?_
  refine lv_iconst (v := 1) hx hb dX2_pass_1 (by decide) ?_
  refine lv_bipush (v := 30) hx hb dX2_pass_2 (by decide) ?_
  refine y_roS (As := [.int dd, .int 1, .int 30]) (rest := []) ⟨hx, hb, hml, hown, hts⟩ (c_X2_isWithin l dd 1 30 ) (va_cwS 3 hts gX2_pass_X2_isWithin rfl rfl rfl (by decide +kernel) ⟨Nat.le_of_ble_eq_true rfl, Nat.le_of_ble_eq_true rfl⟩) rfl hl.1 rfl (Nat.le_of_ble_eq_true rfl) dX2_pass_4 ⟨Nat.le_of_ble_eq_true rfl, Nat.le_of_ble_eq_true rfl⟩ (fun r hr9 => ?_)
  subst hr9
  refine lv_if_eq (tgt := 22) hx hb dX2_pass_7 (by decide) (fun c7 => ?_) (fun c7 => ?_)
  · replace c7 : ¬ (rg 1 30 dd) := b2_of0 c7
    exact y_thr (rest := []) (ik := 31) (is := 63) (ic := 35) (cls := "java/lang/IllegalArgumentException") (text := "the number of days is out of range") hx hb hl9 hts hE hown (by decide) (by decide +kernel) (by decide +kernel) (by decide +kernel) (by decide +kernel) yat_IAE yot_IAE (hl.1.trans hml.symm) dX2_pass_22 dX2_pass_25 dX2_pass_26 dX2_pass_28 dX2_pass_31 ht ⟨Nat.le_of_ble_eq_true rfl, Nat.le_of_ble_eq_true rfl, Nat.le_of_ble_eq_true rfl, Nat.le_of_ble_eq_true rfl⟩ hlocks (by exact ⟨rfl, by unfold o_passC; first | (rw [if_neg c7]; done) | (rw [if_pos c7, if_pos c19]; done)⟩) ⟨Nat.le_of_ble_eq_true rfl, Nat.le_of_ble_eq_true rfl⟩
  · replace c7 : rg 1 30 dd := b2_of1 c7
    refine lv_aload_n hx hb dX2_pass_10 rfl (lv_at hl 0 rfl) ?_
    refine va_get (D := G) (ci := 4) (v := .int (nI d)) (C := RX2) (T := TX2) (N := 3) hx hb hts hinX2 hown hK hP 0 rfl rfl 2 (by decide) fl23 (fun _ h9 => h9) rfl dX2_pass_11 ?_
    refine lv_iload_n hx hb dX2_pass_14 rfl (lv_at hl 1 rfl) ?_
    refine lv_iadd hx hb dX2_pass_15 ?_
    refine lv_sipush (v := 999) hx hb dX2_pass_16 (by decide) ?_
    refine lv_icmp_le (tgt := 32) hx hb dX2_pass_19 (by decide) (fun c19 => ?_) (fun c19 => ?_)
    · replace c19 : ¬ 999 < nI d + dd := Int32.not_lt.mpr c19
      obtain ⟨e9, he9, rfl⟩ := nI_of2 (M := 30) (n := 30) rfl (fun h9 => absurd c7.1 (by have := Int32.lt_of_lt_of_le (show (0:Int32) < 1 by decide) c7.1; exact absurd h9 (Int32.lt_asymm this))) c7.2
      refine lv_iconst (v := 0) hx hb dX2_pass_32 (by decide) ?_
      refine lv_istore_n (lv' := [(2, .int 0), (0, .ref h), (1, .int (nI e9))]) hx hb dX2_pass_33 rfl hl (by decide) rfl (fun ls hl => ?_)
      refine lv_iconst (v := 0) hx hb dX2_pass_34 (by decide) ?_
      refine lv_istore_n (lv' := [(3, .int 0), (2, .int 0), (0, .ref h), (1, .int (nI e9))]) hx hb dX2_pass_35 rfl hl (by decide) rfl (fun ls hl => ?_)
      have hl : lv_has ls 4 [(3, .int (nI 0)), (2, .int (nI 0)), (0, .ref h), (1, .int (nI e9))] := lv_sub hl [0, 1, 2, 3] rfl
      refine y_loop (σ := Nat × Nat × (Nat → Nat → Int32) × Nat × Nat) (fun r xσ H locs ls => xσ.2.1 + r = e9 ∧ xσ.2.2.2.1 ≤ 80 ∧ xσ.1 ≤ 8 * xσ.2.1 ∧ xσ.2.2.2.2 = d + xσ.2.1 ∧ pdsC C n0 e9 d (0, M, n1) = pdsC C n0 r xσ.2.2.2.2 (xσ.1, xσ.2.2.1, xσ.2.2.2.1) ∧ va_P G vwCl (W2 k h a c C n0 xσ.2.2.1 ds xσ.2.2.2.1 xσ.2.2.2.2) H ∧ va_D A (W2 k h a c C n0 xσ.2.2.1 ds xσ.2.2.2.1 xσ.2.2.2.2) ∧ va_S A s.heap H locs ∧ lv_has ls 4 [(3, .int (nI xσ.2.1)), (2, .int (nI xσ.1)), (0, .ref h), (1, .int (nI e9))]) (fun r xσ H locs ls hI ih36 => ?_) e9 (0, 0, M, n1, d) _ _ _ ⟨(by dsimp only; omega), hn1, (Nat.le_refl 0), rfl, rfl, hP, hD, hS, hl⟩
      obtain ⟨po, z9, N, m2, d9⟩ := xσ
      obtain ⟨hz, hm2, hpo, hd9, hv, hP, hD, hS, hl⟩ := hI
      dsimp only at hz hm2 hpo hd9 hv hP hD hl
      refine lv_iload_n hx hb dX2_pass_36 rfl (lv_at hl 0 rfl) ?_
      refine lv_iload_n hx hb dX2_pass_37 rfl (lv_at hl 3 rfl) ?_
      refine lv_icmp_ge (tgt := 81) hx hb dX2_pass_38 (by decide) (fun c38 => ?_) (fun c38 => ?_)
      · replace c38 : e9 ≤ z9 := (nI_leI (a := e9) (b := z9) (by omega) (by omega)).mp c38
        refine lv_iload_n hx hb dX2_pass_81 rfl (lv_at hl 1 rfl) ?_
        refine W.widen (k := 1) (n := 6) (by decide) (by decide) ?_
        have hPf : va_P G vwCl (W2 k h a c C n0 ((o_passC (nI e9) C n0 M n1 d).2.1.2.1) ds ((o_passC (nI e9) C n0 M n1 d).2.1.2.2) ((o_passC (nI e9) C n0 M n1 d).2.2)) H := by (obtain rfl : r = 0 := by omega); unfold o_passC; rw [if_pos c7, if_neg c19]; simp only [clI (show e9 < 80 by omega)]; (obtain rfl : z9 = e9 := by omega); rw [hv]; rw [hd9] at hP; exact hP
        exact vx_ret (W.iret (v := (nI po)) hx hb hr (fun τ hτ hW => ⟨⟨_, (), rfl, (by (obtain rfl : r = 0 := by omega); unfold o_passC; rw [if_pos c7, if_neg c19]; simp only [clI (show e9 < 80 by omega)]; rw [hv]; first | exact ⟨rfl, rfl⟩ | exact ⟨trivial, rfl⟩), yPt hPf hτ⟩, hS.F hτ⟩) hS.2.2 dX2_pass_82)
      · replace c38 : ¬ e9 ≤ z9 := fun h9 => c38 ((nI_leI (a := e9) (b := z9) (by omega) (by omega)).mpr h9)
        obtain ⟨r', rfl⟩ : ∃ r', r = r' + 1 := ⟨r - 1, by omega⟩
        refine lv_aload_n hx hb dX2_pass_41 rfl (lv_at hl 2 rfl) ?_
        refine lv_dup hx hb dX2_pass_42 rfl ?_
        refine va_get (D := G) (ci := 4) (v := .int (nI d9)) (C := RX2) (T := TX2) (N := 3) hx hb hts hinX2 hown hK hP 0 rfl rfl 2 (by decide) fl23 (fun _ h9 => h9) rfl dX2_pass_43 ?_
        refine lv_iconst (v := 1) hx hb dX2_pass_46 (by decide) ?_
        refine lv_iadd hx hb dX2_pass_47 ?_
        refine y_top (nI_1 d9) ?_
        refine va_put (D := G) (ci := 4) (v := .int (nI (d9 + 1))) (ty := .int) (C := RX2) (T := TX2) (N := 3) hx hb hts hinX2 tyX2 tyX2_ok nmX2 hown hK hP hD hS 0 rfl rfl 2 (by decide) fl23 (fun _ h9 => h9) rfl (by decide +kernel) rfl rfl (Nat.le_of_ble_eq_true rfl) dX2_pass_48 (fun H locs hP hD hS => ?_)
        have hP : va_P G vwCl (W2 k h a c C n0 N ds m2 (d9 + 1)) H := hP
        have hD : va_D A (W2 k h a c C n0 N ds m2 (d9 + 1)) := hD
        refine lv_aload_n hx hb dX2_pass_51 rfl (lv_at hl 2 rfl) ?_
        refine va_get (D := G) (ci := 4) (v := .ref (c 0)) (C := RX2) (T := TX2) (N := 3) hx hb hts hinX2 hown hK hP 0 rfl rfl 1 (by decide) fl19 (fun _ h9 => h9) rfl dX2_pass_52 ?_
        refine lv_aload_n hx hb dX2_pass_55 rfl (lv_at hl 2 rfl) ?_
        refine va_get (D := G) (ci := 4) (v := .int (nI (d9 + 1))) (C := RX2) (T := TX2) (N := 3) hx hb hts hinX2 hown hK hP 0 rfl rfl 2 (by decide) fl23 (fun _ h9 => h9) rfl dX2_pass_56 ?_
        refine lv_iconst (v := 5) hx hb dX2_pass_59 (by decide) ?_
        refine lv_isub hx hb dX2_pass_60 ?_
        refine lv_aload_n hx hb dX2_pass_61 rfl (lv_at hl 2 rfl) ?_
        refine va_get (D := G) (ci := 4) (v := .int (nI (d9 + 1))) (C := RX2) (T := TX2) (N := 3) hx hb hts hinX2 hown hK hP 0 rfl rfl 2 (by decide) fl23 (fun _ h9 => h9) rfl dX2_pass_62 ?_
        have hfr9 : ∀ q, va_A (W1 k c N ds m2) _ q → A q := va_free hD hS hA [8, 9, 10, 11, 12, 13, 14, 15, 16, 17, 18, 19] rfl
        refine y_rvVN (w := W1 k c N ds m2) (w' := fun (_ : Unit) => W1 k c (pbk ((nI (d9 + 1)) - 5) (nI (d9 + 1)) m2 0 N) ds m2) (As := [.int ((nI (d9 + 1)) - 5), .int (nI (d9 + 1))]) (rest := []) ⟨hx, hb, hml, hown, hts⟩ (c_X1_putBackTakenUntil l G k c N ds m2 _ ((nI (d9 + 1)) - 5) (nI (d9 + 1)) (yD hND1 rfl) (by omega)) ⟨va_cnB (host := "DunningDesk") 2 hts gX2_pass_X1_putBackTakenUntil_n190 rfl rfl rfl (hE.1 (.methodLinkNest RX2 190 yX1_putBackTakenUntil "DunningDesk") (by decide +kernel)) (hts (.initialized RX1) (by decide +kernel)) (by decide +kernel) ⟨Nat.le_of_ble_eq_true rfl, Nat.le_of_ble_eq_true rfl⟩, hts (.instanceMethod yX1_putBackTakenUntil) (by decide +kernel), hts (.selects RX1 yX1_putBackTakenUntil yX1_putBackTakenUntil) (by decide +kernel)⟩ hK (P21 hP) (va_recv hK (P21 hP) (ci := 3) (q0 := 0) rfl rfl) hS hfr9 rfl hl.1 rfl (Nat.le_of_ble_eq_true rfl) dX2_pass_65 ⟨Nat.le_of_ble_eq_true rfl, Nat.le_of_ble_eq_true rfl⟩ (fun u9 H1 locs1 hr9 hP9 hz9 hk9 hS9 => ?_)
        have hP9 : va_P G vwCl (W2 k h a c C n0 (pbk ((nI (d9 + 1)) - 5) (nI (d9 + 1)) m2 0 N) ds m2 (d9 + 1)) H1 := J21 hP hD hfr9 hk9 hP9
        have hD9 : va_D A (W2 k h a c C n0 (pbk ((nI (d9 + 1)) - 5) (nI (d9 + 1)) m2 0 N) ds m2 (d9 + 1)) := yD hD rfl
        clear hP hD hS hfr9 hz9 hk9
        have hP := hP9
        have hD := hD9
        have hS := hS9
        clear hP9 hD9 hS9
        refine lv_iload_n hx hb dX2_pass_68 rfl (lv_at hl 1 rfl) ?_
        refine lv_aload_n hx hb dX2_pass_69 rfl (lv_at hl 2 rfl) ?_
        have hfr9 : ∀ q, va_A (W2 k h a c C n0 (pbk ((nI (d9 + 1)) - 5) (nI (d9 + 1)) m2 0 N) ds m2 (d9 + 1)) _ q → A q := va_free hD hS hA [0, 1, 2, 3, 4, 5, 6, 7, 8, 9, 10, 11, 12, 13, 14, 15, 16, 17, 18, 19] rfl
        refine y_weV hE.1 (w := W2 k h a c C n0 (pbk ((nI (d9 + 1)) - 5) (nI (d9 + 1)) m2 0 N) ds m2 (d9 + 1)) (w' := fun (_ : Unit) => W2 k h a c C n0 ((rms C (nI (d9 + 1)) n0 0 (0, (pbk ((nI (d9 + 1)) - 5) (nI (d9 + 1)) m2 0 N), m2)).2.1) ds ((rms C (nI (d9 + 1)) n0 0 (0, (pbk ((nI (d9 + 1)) - 5) (nI (d9 + 1)) m2 0 N), m2)).2.2) (d9 + 1)) (As := []) (rest := [.int (nI po)]) ⟨hx, hb, hml, hown, hts⟩ (c_X2_postReminders l G k h a c C n0 (pbk ((nI (d9 + 1)) - 5) (nI (d9 + 1)) m2 0 N) ds m2 (d9 + 1) _  (yD hND rfl) (by omega) (by omega)) (cwV 0 hts gX2_pass_X2_postReminders rfl rfl rfl (by decide +kernel) ⟨Nat.le_of_ble_eq_true rfl, Nat.le_of_ble_eq_true rfl⟩) hK hP (va_recv hK hP (ci := 4) (q0 := 0) rfl rfl) hS hfr9 rfl hl.1 rfl (Nat.le_of_ble_eq_true rfl) dX2_pass_70 ⟨Nat.le_of_ble_eq_true rfl, Nat.le_of_ble_eq_true rfl⟩ (fun r u9 H1 locs1 hr9 hP9 hz9 hk9 hS9 => ?_)
        have hP9 : va_P G vwCl (W2 k h a c C n0 ((rms C (nI (d9 + 1)) n0 0 (0, (pbk ((nI (d9 + 1)) - 5) (nI (d9 + 1)) m2 0 N), m2)).2.1) ds ((rms C (nI (d9 + 1)) n0 0 (0, (pbk ((nI (d9 + 1)) - 5) (nI (d9 + 1)) m2 0 N), m2)).2.2) (d9 + 1)) H1 := hP9
        have hD9 : va_D A (W2 k h a c C n0 ((rms C (nI (d9 + 1)) n0 0 (0, (pbk ((nI (d9 + 1)) - 5) (nI (d9 + 1)) m2 0 N), m2)).2.1) ds ((rms C (nI (d9 + 1)) n0 0 (0, (pbk ((nI (d9 + 1)) - 5) (nI (d9 + 1)) m2 0 N), m2)).2.2) (d9 + 1)) := yD hD rfl
        clear hP hD hS hfr9 hz9 hk9
        have hP := hP9
        have hD := hD9
        have hS := hS9
        clear hP9 hD9 hS9
        subst hr9
        refine lv_iadd hx hb dX2_pass_73 ?_
        refine y_top (nI_add po ((rms C (nI (d9 + 1)) n0 0 (0, (pbk ((nI (d9 + 1)) - 5) (nI (d9 + 1)) m2 0 N), m2)).1)) ?_
        refine lv_istore_n (lv' := [(2, .int (nI (po + (rms C (nI (d9 + 1)) n0 0 (0, (pbk ((nI (d9 + 1)) - 5) (nI (d9 + 1)) m2 0 N), m2)).1))), (3, .int (nI z9)), (0, .ref h), (1, .int (nI e9))]) hx hb dX2_pass_74 rfl hl (by decide) rfl (fun ls hl => ?_)
        refine lv_iinc (v := nI (z9 + 1)) (lv' := [(3, .int (nI (z9 + 1))), (2, .int (nI (po + (rms C (nI (d9 + 1)) n0 0 (0, (pbk ((nI (d9 + 1)) - 5) (nI (d9 + 1)) m2 0 N), m2)).1))), (0, .ref h), (1, .int (nI e9))]) hx hb dX2_pass_75 hl (k := 1) rfl (nI_1 z9) (by decide) rfl (fun ls hl => ?_)
        refine lv_goto (tgt := 36) hx hb dX2_pass_78 (by decide) ?_
        exact ih36 r' (po + (rms C (nI (d9 + 1)) n0 0 (0, (pbk ((nI (d9 + 1)) - 5) (nI (d9 + 1)) m2 0 N), m2)).1, z9 + 1, (rms C (nI (d9 + 1)) n0 0 (0, (pbk ((nI (d9 + 1)) - 5) (nI (d9 + 1)) m2 0 N), m2)).2.1, (rms C (nI (d9 + 1)) n0 0 (0, (pbk ((nI (d9 + 1)) - 5) (nI (d9 + 1)) m2 0 N), m2)).2.2, d9 + 1) _ _ _ (by omega) ⟨(by dsimp only; omega), (pdC_n hm2).1, (show po + (pdC C n0 d9 N m2).1 ≤ 8 * (z9 + 1) by have h7 : (pdC C n0 d9 N m2).1 ≤ n0 := (pdC_n hm2).2; omega), (by dsimp only; omega), (by rw [hv]; rfl), hP, hD, hS, lv_sub hl [0, 1, 2, 3] rfl⟩
    · replace c19 : 999 < nI d + dd := Int32.not_le.mp c19
      exact y_thr (rest := []) (ik := 31) (is := 63) (ic := 35) (cls := "java/lang/IllegalArgumentException") (text := "the number of days is out of range") hx hb hl9 hts hE hown (by decide) (by decide +kernel) (by decide +kernel) (by decide +kernel) (by decide +kernel) yat_IAE yot_IAE (hl.1.trans hml.symm) dX2_pass_22 dX2_pass_25 dX2_pass_26 dX2_pass_28 dX2_pass_31 ht ⟨Nat.le_of_ble_eq_true rfl, Nat.le_of_ble_eq_true rfl, Nat.le_of_ble_eq_true rfl, Nat.le_of_ble_eq_true rfl⟩ hlocks (by exact ⟨rfl, by unfold o_passC; first | (rw [if_neg c7]; done) | (rw [if_pos c7, if_pos c19]; done)⟩) ⟨Nat.le_of_ble_eq_true rfl, Nat.le_of_ble_eq_true rfl⟩

set_option maxHeartbeats 4000000 in
set_option maxRecDepth 100000 in
theorem c_X2_day (l : Launch) (G : va_G) (k : Nat → ClassId) (h : Nat) (a : Nat → Nat) (c : Nat → Nat) (C : Nat → Nat → Int32) (n0 : Nat) (M : Nat → Nat → Int32) (ds : Nat) (n1 : Nat) (d : Nat)   : Met l yX2_day wsX2_day ({ frames := 0, cells := 0, slots := 0, locals := 0 }) (va_Pc [.ref h] (yB G (yT k) (W2 k h a c C n0 M ds n1 d))) (vp_Si (fun r => r = nI d)) 0 0 (fun _ => False) := by
  refine Met.ofW (cc := cX2_day) (maxL := 1) (ret := (some .int)) (by decide) rfl ?_
  intro p e s m args below meth c_ s₁ B hml hv
  obtain ⟨rfl, hP, hK⟩ := hv
  have hx := B.exec
  have hb := B.bytes
  have hr := B.returns
  have hts := atoms_spec (ws := wsX2_day) B.pre
  have hown : s.vm.findClass RX2 = some m.cls := findClass_of_methodNamed B.named
  have hlocks := B.notSynchronized
  have hsz0 : (8 : Nat) < 2 ^ 31 := by decide
  have hsz1 : (80 : Nat) < 2 ^ 31 := by decide
  have hinX2 : ∀ w ∈ u_ws RX2 TX2 3, w ∈ wsX2_day := by decide +kernel
  have fl23 := hts (.fieldLink RX2 23 "DunningDesk" "today" "I") (by decide +kernel)
  have hl := lv_entry [.ref h] (n := 1) (Nat.le_of_ble_eq_true rfl)
  rw [lg_entry_eq]
  generalize (lg_sl [.ref h] ++ List.replicate (1 - (lg_sl [.ref h]).length) Slot.unset).toArray = ls at hl ⊢
  have hl : lv_has ls 1 [(0, .ref h)] := hl
  refine lv_aload_n hx hb dX2_day_0 rfl (lv_at hl 0 rfl) ?_
  refine va_get (D := G) (ci := 4) (v := .int (nI d)) (C := RX2) (T := TX2) (N := 3) hx hb hts hinX2 hown hK hP 0 rfl rfl 2 (by decide) fl23 (fun _ h9 => h9) rfl dX2_day_1 ?_
  exact W.iret (v := (nI d)) hx hb hr (fun τ hτ _ => ⟨_, rfl, (by rfl), hτ⟩) (fun _ h9 => nomatch h9) dX2_day_4

set_option maxHeartbeats 4000000 in
set_option maxRecDepth 100000 in
theorem c_X2_count (l : Launch) (hl9 : l.stackTraces = false) (G : va_G) (k : Nat → ClassId) (h : Nat) (a : Nat → Nat) (c : Nat → Nat) (C : Nat → Nat → Int32) (n0 : Nat) (M : Nat → Nat → Int32) (ds : Nat) (n1 : Nat) (d : Nat) (w : Int32) (hn1 : n1 ≤ 80) : vx_Met l yX2_count wsX2_count ({ frames := 6, cells := 1, slots := 6, locals := 90 }) (va_Pc [.ref h, .int w] (yE G (yT k) (W2 k h a c C n0 M ds n1 d))) (vp_Si (fun r => (o_count w M n1).1 = 0 ∧ r = (o_count w M n1).2)) (yX (fun E => (E = "java/lang/IllegalArgumentException" ∧ (o_count w M n1).1 = 1))) 1 6 (fun _ => False) := by
  refine vx_ofW (cc := cX2_count) (maxL := 2) (ret := (some .int)) (by decide) rfl ?_
  intro p e s m args below meth c_ s₁ B hml ht hv
  obtain ⟨rfl, hP, hK, hE⟩ := hv
  have hE : yEV0 s s.heap := hE
  have hx := B.exec
  have hb := B.bytes
  have hr := B.returns
  have hts := atoms_spec (ws := wsX2_count) B.pre
  have hown : s.vm.findClass RX2 = some m.cls := findClass_of_methodNamed B.named
  have hlocks := B.notSynchronized
  have hsz0 : (8 : Nat) < 2 ^ 31 := by decide
  have hsz1 : (80 : Nat) < 2 ^ 31 := by decide
  have hinX2 : ∀ w ∈ u_ws RX2 TX2 3, w ∈ wsX2_count := by decide +kernel
  have fl19 := hts (.fieldLink RX2 19 "DunningDesk" "messages" "LDunningDesk$MessageBook;") (by decide +kernel)
  have hl := lv_entry [.ref h, .int w] (n := 2) (Nat.le_of_ble_eq_true rfl)
  rw [lg_entry_eq]
  generalize (lg_sl [.ref h, .int w] ++ List.replicate (2 - (lg_sl [.ref h, .int w]).length) Slot.unset).toArray = ls at hl ⊢
  have hl : lv_has ls 2 [(0, .ref h), (1, .int w)] := hl
  refine lv_iload_n hx hb dX2_count_0 rfl (lv_at hl 1 rfl) ?_
  refine lv_bipush (v := 104) hx hb dX2_count_1 (by decide) ?_
  refine lv_icmp_eq (tgt := 40) hx hb dX2_count_3 (by decide) (fun c3 => ?_) (fun c3 => ?_)
  · skip
    refine lv_aload_n hx hb dX2_count_40 rfl (lv_at hl 0 rfl) ?_
    refine va_get (D := G) (ci := 4) (v := .ref (c 0)) (C := RX2) (T := TX2) (N := 3) hx hb hts hinX2 hown hK hP 0 rfl rfl 1 (by decide) fl19 (fun _ h9 => h9) rfl dX2_count_41 ?_
    refine lv_iload_n hx hb dX2_count_44 rfl (lv_at hl 1 rfl) ?_
    refine y_roVN (As := [.int w]) (rest := []) ⟨hx, hb, hml, hown, hts⟩ (c_X1_countIn l G k c M ds n1 w (by omega)) ⟨va_cnB (host := "DunningDesk") 1 hts gX2_count_X1_countIn_n181 rfl rfl rfl (hE.1 (.methodLinkNest RX2 181 yX1_countIn "DunningDesk") (by decide +kernel)) (hts (.initialized RX1) (by decide +kernel)) (by decide +kernel) ⟨Nat.le_of_ble_eq_true rfl, Nat.le_of_ble_eq_true rfl⟩, hts (.instanceMethod yX1_countIn) (by decide +kernel), hts (.selects RX1 yX1_countIn yX1_countIn) (by decide +kernel)⟩ hK (P21 hP) (va_recv hK (P21 hP) (ci := 3) (q0 := 0) rfl rfl) rfl hl.1 rfl (Nat.le_of_ble_eq_true rfl) dX2_count_45 ⟨Nat.le_of_ble_eq_true rfl, Nat.le_of_ble_eq_true rfl⟩ (fun r hr9 => ?_)
    subst hr9
    refine W.widen (k := 1) (n := 6) (by decide) (by decide) ?_
    exact vx_ret (W.iret (v := (nI (cnt (fun z => decide (M 5 z = w)) n1 0 0))) hx hb hr (fun τ hτ _ => ⟨_, rfl, (by unfold o_count; rw [if_pos (show oks w from by first | exact Or.inl c3 | exact Or.inr (Or.inl c9) | exact Or.inr (Or.inr (Or.inl c15)) | exact Or.inr (Or.inr (Or.inr (Or.inl c21))) | exact Or.inr (Or.inr (Or.inr (Or.inr c27))))]; exact ⟨rfl, rfl⟩), hτ⟩) (fun _ h9 => nomatch h9) dX2_count_48)
  · skip
    refine lv_iload_n hx hb dX2_count_6 rfl (lv_at hl 1 rfl) ?_
    refine lv_bipush (v := 119) hx hb dX2_count_7 (by decide) ?_
    refine lv_icmp_eq (tgt := 40) hx hb dX2_count_9 (by decide) (fun c9 => ?_) (fun c9 => ?_)
    · skip
      refine lv_aload_n hx hb dX2_count_40 rfl (lv_at hl 0 rfl) ?_
      refine va_get (D := G) (ci := 4) (v := .ref (c 0)) (C := RX2) (T := TX2) (N := 3) hx hb hts hinX2 hown hK hP 0 rfl rfl 1 (by decide) fl19 (fun _ h9 => h9) rfl dX2_count_41 ?_
      refine lv_iload_n hx hb dX2_count_44 rfl (lv_at hl 1 rfl) ?_
      refine y_roVN (As := [.int w]) (rest := []) ⟨hx, hb, hml, hown, hts⟩ (c_X1_countIn l G k c M ds n1 w (by omega)) ⟨va_cnB (host := "DunningDesk") 1 hts gX2_count_X1_countIn_n181 rfl rfl rfl (hE.1 (.methodLinkNest RX2 181 yX1_countIn "DunningDesk") (by decide +kernel)) (hts (.initialized RX1) (by decide +kernel)) (by decide +kernel) ⟨Nat.le_of_ble_eq_true rfl, Nat.le_of_ble_eq_true rfl⟩, hts (.instanceMethod yX1_countIn) (by decide +kernel), hts (.selects RX1 yX1_countIn yX1_countIn) (by decide +kernel)⟩ hK (P21 hP) (va_recv hK (P21 hP) (ci := 3) (q0 := 0) rfl rfl) rfl hl.1 rfl (Nat.le_of_ble_eq_true rfl) dX2_count_45 ⟨Nat.le_of_ble_eq_true rfl, Nat.le_of_ble_eq_true rfl⟩ (fun r hr9 => ?_)
      subst hr9
      refine W.widen (k := 1) (n := 6) (by decide) (by decide) ?_
      exact vx_ret (W.iret (v := (nI (cnt (fun z => decide (M 5 z = w)) n1 0 0))) hx hb hr (fun τ hτ _ => ⟨_, rfl, (by unfold o_count; rw [if_pos (show oks w from by first | exact Or.inl c3 | exact Or.inr (Or.inl c9) | exact Or.inr (Or.inr (Or.inl c15)) | exact Or.inr (Or.inr (Or.inr (Or.inl c21))) | exact Or.inr (Or.inr (Or.inr (Or.inr c27))))]; exact ⟨rfl, rfl⟩), hτ⟩) (fun _ h9 => nomatch h9) dX2_count_48)
    · skip
      refine lv_iload_n hx hb dX2_count_12 rfl (lv_at hl 1 rfl) ?_
      refine lv_bipush (v := 116) hx hb dX2_count_13 (by decide) ?_
      refine lv_icmp_eq (tgt := 40) hx hb dX2_count_15 (by decide) (fun c15 => ?_) (fun c15 => ?_)
      · skip
        refine lv_aload_n hx hb dX2_count_40 rfl (lv_at hl 0 rfl) ?_
        refine va_get (D := G) (ci := 4) (v := .ref (c 0)) (C := RX2) (T := TX2) (N := 3) hx hb hts hinX2 hown hK hP 0 rfl rfl 1 (by decide) fl19 (fun _ h9 => h9) rfl dX2_count_41 ?_
        refine lv_iload_n hx hb dX2_count_44 rfl (lv_at hl 1 rfl) ?_
        refine y_roVN (As := [.int w]) (rest := []) ⟨hx, hb, hml, hown, hts⟩ (c_X1_countIn l G k c M ds n1 w (by omega)) ⟨va_cnB (host := "DunningDesk") 1 hts gX2_count_X1_countIn_n181 rfl rfl rfl (hE.1 (.methodLinkNest RX2 181 yX1_countIn "DunningDesk") (by decide +kernel)) (hts (.initialized RX1) (by decide +kernel)) (by decide +kernel) ⟨Nat.le_of_ble_eq_true rfl, Nat.le_of_ble_eq_true rfl⟩, hts (.instanceMethod yX1_countIn) (by decide +kernel), hts (.selects RX1 yX1_countIn yX1_countIn) (by decide +kernel)⟩ hK (P21 hP) (va_recv hK (P21 hP) (ci := 3) (q0 := 0) rfl rfl) rfl hl.1 rfl (Nat.le_of_ble_eq_true rfl) dX2_count_45 ⟨Nat.le_of_ble_eq_true rfl, Nat.le_of_ble_eq_true rfl⟩ (fun r hr9 => ?_)
        subst hr9
        refine W.widen (k := 1) (n := 6) (by decide) (by decide) ?_
        exact vx_ret (W.iret (v := (nI (cnt (fun z => decide (M 5 z = w)) n1 0 0))) hx hb hr (fun τ hτ _ => ⟨_, rfl, (by unfold o_count; rw [if_pos (show oks w from by first | exact Or.inl c3 | exact Or.inr (Or.inl c9) | exact Or.inr (Or.inr (Or.inl c15)) | exact Or.inr (Or.inr (Or.inr (Or.inl c21))) | exact Or.inr (Or.inr (Or.inr (Or.inr c27))))]; exact ⟨rfl, rfl⟩), hτ⟩) (fun _ h9 => nomatch h9) dX2_count_48)
      · skip
        refine lv_iload_n hx hb dX2_count_18 rfl (lv_at hl 1 rfl) ?_
        refine lv_bipush (v := 100) hx hb dX2_count_19 (by decide) ?_
        refine lv_icmp_eq (tgt := 40) hx hb dX2_count_21 (by decide) (fun c21 => ?_) (fun c21 => ?_)
        · skip
          refine lv_aload_n hx hb dX2_count_40 rfl (lv_at hl 0 rfl) ?_
          refine va_get (D := G) (ci := 4) (v := .ref (c 0)) (C := RX2) (T := TX2) (N := 3) hx hb hts hinX2 hown hK hP 0 rfl rfl 1 (by decide) fl19 (fun _ h9 => h9) rfl dX2_count_41 ?_
          refine lv_iload_n hx hb dX2_count_44 rfl (lv_at hl 1 rfl) ?_
          refine y_roVN (As := [.int w]) (rest := []) ⟨hx, hb, hml, hown, hts⟩ (c_X1_countIn l G k c M ds n1 w (by omega)) ⟨va_cnB (host := "DunningDesk") 1 hts gX2_count_X1_countIn_n181 rfl rfl rfl (hE.1 (.methodLinkNest RX2 181 yX1_countIn "DunningDesk") (by decide +kernel)) (hts (.initialized RX1) (by decide +kernel)) (by decide +kernel) ⟨Nat.le_of_ble_eq_true rfl, Nat.le_of_ble_eq_true rfl⟩, hts (.instanceMethod yX1_countIn) (by decide +kernel), hts (.selects RX1 yX1_countIn yX1_countIn) (by decide +kernel)⟩ hK (P21 hP) (va_recv hK (P21 hP) (ci := 3) (q0 := 0) rfl rfl) rfl hl.1 rfl (Nat.le_of_ble_eq_true rfl) dX2_count_45 ⟨Nat.le_of_ble_eq_true rfl, Nat.le_of_ble_eq_true rfl⟩ (fun r hr9 => ?_)
          subst hr9
          refine W.widen (k := 1) (n := 6) (by decide) (by decide) ?_
          exact vx_ret (W.iret (v := (nI (cnt (fun z => decide (M 5 z = w)) n1 0 0))) hx hb hr (fun τ hτ _ => ⟨_, rfl, (by unfold o_count; rw [if_pos (show oks w from by first | exact Or.inl c3 | exact Or.inr (Or.inl c9) | exact Or.inr (Or.inr (Or.inl c15)) | exact Or.inr (Or.inr (Or.inr (Or.inl c21))) | exact Or.inr (Or.inr (Or.inr (Or.inr c27))))]; exact ⟨rfl, rfl⟩), hτ⟩) (fun _ h9 => nomatch h9) dX2_count_48)
        · skip
          refine lv_iload_n hx hb dX2_count_24 rfl (lv_at hl 1 rfl) ?_
          refine lv_bipush (v := 120) hx hb dX2_count_25 (by decide) ?_
          refine lv_icmp_eq (tgt := 40) hx hb dX2_count_27 (by decide) (fun c27 => ?_) (fun c27 => ?_)
          · skip
            refine lv_aload_n hx hb dX2_count_40 rfl (lv_at hl 0 rfl) ?_
            refine va_get (D := G) (ci := 4) (v := .ref (c 0)) (C := RX2) (T := TX2) (N := 3) hx hb hts hinX2 hown hK hP 0 rfl rfl 1 (by decide) fl19 (fun _ h9 => h9) rfl dX2_count_41 ?_
            refine lv_iload_n hx hb dX2_count_44 rfl (lv_at hl 1 rfl) ?_
            refine y_roVN (As := [.int w]) (rest := []) ⟨hx, hb, hml, hown, hts⟩ (c_X1_countIn l G k c M ds n1 w (by omega)) ⟨va_cnB (host := "DunningDesk") 1 hts gX2_count_X1_countIn_n181 rfl rfl rfl (hE.1 (.methodLinkNest RX2 181 yX1_countIn "DunningDesk") (by decide +kernel)) (hts (.initialized RX1) (by decide +kernel)) (by decide +kernel) ⟨Nat.le_of_ble_eq_true rfl, Nat.le_of_ble_eq_true rfl⟩, hts (.instanceMethod yX1_countIn) (by decide +kernel), hts (.selects RX1 yX1_countIn yX1_countIn) (by decide +kernel)⟩ hK (P21 hP) (va_recv hK (P21 hP) (ci := 3) (q0 := 0) rfl rfl) rfl hl.1 rfl (Nat.le_of_ble_eq_true rfl) dX2_count_45 ⟨Nat.le_of_ble_eq_true rfl, Nat.le_of_ble_eq_true rfl⟩ (fun r hr9 => ?_)
            subst hr9
            refine W.widen (k := 1) (n := 6) (by decide) (by decide) ?_
            exact vx_ret (W.iret (v := (nI (cnt (fun z => decide (M 5 z = w)) n1 0 0))) hx hb hr (fun τ hτ _ => ⟨_, rfl, (by unfold o_count; rw [if_pos (show oks w from by first | exact Or.inl c3 | exact Or.inr (Or.inl c9) | exact Or.inr (Or.inr (Or.inl c15)) | exact Or.inr (Or.inr (Or.inr (Or.inl c21))) | exact Or.inr (Or.inr (Or.inr (Or.inr c27))))]; exact ⟨rfl, rfl⟩), hτ⟩) (fun _ h9 => nomatch h9) dX2_count_48)
          · skip
            exact y_thr (rest := []) (ik := 31) (is := 197) (ic := 35) (cls := "java/lang/IllegalArgumentException") (text := "there is no such state") hx hb hl9 hts hE hown (by decide) (by decide +kernel) (by decide +kernel) (by decide +kernel) (by decide +kernel) yat_IAE yot_IAE (hl.1.trans hml.symm) dX2_count_30 dX2_count_33 dX2_count_34 dX2_count_36 dX2_count_39 ht ⟨Nat.le_of_ble_eq_true rfl, Nat.le_of_ble_eq_true rfl, Nat.le_of_ble_eq_true rfl, Nat.le_of_ble_eq_true rfl⟩ hlocks (by exact ⟨rfl, by unfold o_count; rw [if_neg (fun h9 => h9.elim c3 (fun h => h.elim c9 (fun h => h.elim c15 (fun h => h.elim c21 c27))))]⟩) ⟨Nat.le_of_ble_eq_true rfl, Nat.le_of_ble_eq_true rfl⟩

set_option maxHeartbeats 4000000 in
set_option maxRecDepth 100000 in
theorem c_X2_doneShare (l : Launch) (hl9 : l.stackTraces = false) (G : va_G) (k : Nat → ClassId) (h : Nat) (a : Nat → Nat) (c : Nat → Nat) (C : Nat → Nat → Int32) (n0 : Nat) (M : Nat → Nat → Int32) (ds : Nat) (n1 : Nat) (d : Nat)  (hn1 : n1 ≤ 80) : vx_Met l yX2_doneShare wsX2_doneShare ({ frames := 6, cells := 1, slots := 6, locals := 90 }) (va_Pc [.ref h] (yE G (yT k) (W2 k h a c C n0 M ds n1 d))) (vp_Sf (fun r => (o_share M n1).1 = 0 ∧ r = (o_share M n1).2)) (yX (fun E => (E = "java/lang/ArithmeticException" ∧ (o_share M n1).1 = 1))) 1 6 (fun _ => False) := by
  refine vx_ofW (cc := cX2_doneShare) (maxL := 1) (ret := (some .float)) (by decide) rfl ?_
  intro p e s m args below meth c_ s₁ B hml ht hv
  obtain ⟨rfl, hP, hK, hE⟩ := hv
  have hE : yEV0 s s.heap := hE
  have hx := B.exec
  have hb := B.bytes
  have hr := B.returns
  have hts := atoms_spec (ws := wsX2_doneShare) B.pre
  have hown : s.vm.findClass RX2 = some m.cls := findClass_of_methodNamed B.named
  have hlocks := B.notSynchronized
  have hsz0 : (8 : Nat) < 2 ^ 31 := by decide
  have hsz1 : (80 : Nat) < 2 ^ 31 := by decide
  have hinX1 : ∀ w ∈ u_ws RX1 TX1 13, w ∈ wsX2_doneShare := by decide +kernel
  have hinX2 : ∀ w ∈ u_ws RX2 TX2 3, w ∈ wsX2_doneShare := by decide +kernel
  have fl19 := hts (.fieldLink RX2 19 "DunningDesk" "messages" "LDunningDesk$MessageBook;") (by decide +kernel)
  have hl := lv_entry [.ref h] (n := 1) (Nat.le_of_ble_eq_true rfl)
  rw [lg_entry_eq]
  generalize (lg_sl [.ref h] ++ List.replicate (1 - (lg_sl [.ref h]).length) Slot.unset).toArray = ls at hl ⊢
  have hl : lv_has ls 1 [(0, .ref h)] := hl
  refine lv_aload_n hx hb dX2_doneShare_0 rfl (lv_at hl 0 rfl) ?_
  refine va_get (D := G) (ci := 4) (v := .ref (c 0)) (C := RX2) (T := TX2) (N := 3) hx hb hts hinX2 hown hK hP 0 rfl rfl 1 (by decide) fl19 (fun _ h9 => h9) rfl dX2_doneShare_1 ?_
  refine va_getN (D := G) (ci := 3) (v := .int (nI n1)) (C := RX1) (T := TX1) (N := 13) (host := "DunningDesk") hx hb hts hinX1 hown hK hP 8 rfl rfl 12 (by decide) (va_Nw.use rfl (hE.1 (.fieldLinkNest RX2 199 "DunningDesk$MessageBook" "size" "I" "DunningDesk") (by decide +kernel))) (fun _ h9 => h9) rfl dX2_doneShare_4 ?_
  refine lv_if_ne (tgt := 20) hx hb dX2_doneShare_7 (by decide) (fun c7 => ?_) (fun c7 => ?_)
  · replace c7 : ¬ n1 = 0 := fun h9 => c7 ((nI_eq (a := n1) (b := 0) (by omega) (by omega)).mpr h9)
    refine lv_aload_n hx hb dX2_doneShare_20 rfl (lv_at hl 0 rfl) ?_
    refine va_get (D := G) (ci := 4) (v := .ref (c 0)) (C := RX2) (T := TX2) (N := 3) hx hb hts hinX2 hown hK hP 0 rfl rfl 1 (by decide) fl19 (fun _ h9 => h9) rfl dX2_doneShare_21 ?_
    refine lv_bipush (v := 100) hx hb dX2_doneShare_24 (by decide) ?_
    refine y_roVN (As := [.int 100]) (rest := []) ⟨hx, hb, hml, hown, hts⟩ (c_X1_countIn l G k c M ds n1 100 (by omega)) ⟨va_cnB (host := "DunningDesk") 1 hts gX2_doneShare_X1_countIn_n181 rfl rfl rfl (hE.1 (.methodLinkNest RX2 181 yX1_countIn "DunningDesk") (by decide +kernel)) (hts (.initialized RX1) (by decide +kernel)) (by decide +kernel) ⟨Nat.le_of_ble_eq_true rfl, Nat.le_of_ble_eq_true rfl⟩, hts (.instanceMethod yX1_countIn) (by decide +kernel), hts (.selects RX1 yX1_countIn yX1_countIn) (by decide +kernel)⟩ hK (P21 hP) (va_recv hK (P21 hP) (ci := 3) (q0 := 0) rfl rfl) rfl hl.1 rfl (Nat.le_of_ble_eq_true rfl) dX2_doneShare_26 ⟨Nat.le_of_ble_eq_true rfl, Nat.le_of_ble_eq_true rfl⟩ (fun r hr9 => ?_)
    subst hr9
    refine lv_i2f hx hb dX2_doneShare_29 ?_
    refine lv_aload_n hx hb dX2_doneShare_30 rfl (lv_at hl 0 rfl) ?_
    refine va_get (D := G) (ci := 4) (v := .ref (c 0)) (C := RX2) (T := TX2) (N := 3) hx hb hts hinX2 hown hK hP 0 rfl rfl 1 (by decide) fl19 (fun _ h9 => h9) rfl dX2_doneShare_31 ?_
    refine va_getN (D := G) (ci := 3) (v := .int (nI n1)) (C := RX1) (T := TX1) (N := 13) (host := "DunningDesk") hx hb hts hinX1 hown hK hP 8 rfl rfl 12 (by decide) (va_Nw.use rfl (hE.1 (.fieldLinkNest RX2 199 "DunningDesk$MessageBook" "size" "I" "DunningDesk") (by decide +kernel))) (fun _ h9 => h9) rfl dX2_doneShare_34 ?_
    refine lv_i2f hx hb dX2_doneShare_37 ?_
    refine lv_fdiv hx hb dX2_doneShare_38 (y_fdiv (fun h9 => c7 ((nI_eq (a := n1) (b := 0) (by omega) (by omega)).mp h9))) ?_
    refine W.widen (k := 1) (n := 6) (by decide) (by decide) ?_
    exact vx_ret (W.fret (v := (FP.fdiv (FP.i2f (nI (cnt (fun z => decide (M 5 z = 100)) n1 0 0))) (FP.i2f (nI n1)))) hx hb hr (fun τ hτ _ => ⟨_, rfl, (by exact ⟨by unfold o_share; (all_goals try first | rw [if_pos c7] | rw [if_neg c7]); (all_goals try simp only [clI (show j < 80 by omega)]); (all_goals try rfl), by unfold o_share; (all_goals try first | rw [if_pos c7] | rw [if_neg c7]); (all_goals try simp only [clI (show j < 80 by omega)]); (all_goals try rfl)⟩), hτ⟩) (fun _ h9 => nomatch h9) dX2_doneShare_39)
  · replace c7 : n1 = 0 := (nI_eq (a := n1) (b := 0) (by omega) (by omega)).mp c7
    exact y_thr (rest := []) (ik := 202) (is := 204) (ic := 206) (cls := "java/lang/ArithmeticException") (text := "there are no messages") hx hb hl9 hts hE hown (by decide) (by decide +kernel) (by decide +kernel) (by decide +kernel) (by decide +kernel) yat_ARI yot_ARI (hl.1.trans hml.symm) dX2_doneShare_10 dX2_doneShare_13 dX2_doneShare_14 dX2_doneShare_16 dX2_doneShare_19 ht ⟨Nat.le_of_ble_eq_true rfl, Nat.le_of_ble_eq_true rfl, Nat.le_of_ble_eq_true rfl, Nat.le_of_ble_eq_true rfl⟩ hlocks (by exact ⟨rfl, by unfold o_share; (all_goals try first | rw [if_pos c7] | rw [if_neg c7]); (all_goals try simp only [clI (show j < 80 by omega)]); (all_goals try rfl)⟩) ⟨Nat.le_of_ble_eq_true rfl, Nat.le_of_ble_eq_true rfl⟩
