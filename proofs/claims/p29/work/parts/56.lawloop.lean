set_option maxHeartbeats 8000000 in
set_option maxRecDepth 100000 in
theorem law_kind {p : Program} {l : Launch} {e : Env} {s : State} {m : MethodId} {below : List Frame} {meth : Method} {c_ : Code} {b L : Nat} {xs : Nat → Int32} {G : va_G} {k : Nat → ClassId} {h : Nat} {a c : Nat → Nat} (F : LF p l s m meth c_ b L xs G k h a c) {σ : SX} (hJ : yJs σ) {z9 j A B v9 w9 : Nat} {cc nn isW kd : Int32} {bf : Int64} (hj : j < 58) (hd : σ.2.2.2.2.2 ≤ 7 * j) (hw8 : w9 < 5000000) (hbf : ¬ isW = 0 → f_sum σ = bf) (kt : KT p l e s m below meth c_ b G k h a c z9 isW bf j A B) {H : Heap} {locs : List Loc} {cells slots : Nat} {ls : Array Slot} (hP : va_P G vwCl (WS k h a c σ) H) (hS : yO s H locs) (hb1 : cells + (A + 100) ≤ 756716) (hb2 : slots + (B + 600) ≤ 6824554) (hl : lv_has ls 16 [(0, .ref b), (1, .ref h), (2, .int (nI z9)), (3, .int (nI j)), (4, .int (nI v9)), (5, .int (nI w9)), (6, .int cc), (7, .int (nI σ.2.2.2.2.1)), (8, .int nn), (9, .int isW), (10, .long bf), (12, .int 0)]) : W p l e room_1 s m #[Value.ref b] below meth c_ H locs cells slots (lw_Z below #[Value.ref b] s) (F0 m 134 ls [.int kd]) := by
  have F9 := F
  obtain ⟨hx, hb, hr, hml, hown, hts, hX, hbl, hL, hK, hV, hl9, hlocks, hDA⟩ := F
  have hn0 : σ.2.1 ≤ 8 := J_n0 hJ
  have hn1 : σ.2.2.2.2.1 ≤ 80 := J_n1 hJ
  refine lv_istore (lv' := [(13, .int kd), (0, .ref b), (1, .ref h), (2, .int (nI z9)), (3, .int (nI j)), (4, .int (nI v9)), (5, .int (nI w9)), (6, .int cc), (7, .int (nI σ.2.2.2.2.1)), (8, .int nn), (9, .int isW), (10, .long bf), (12, .int 0)]) hx hb dL_law_134 hl (by decide) rfl (fun ls hl => ?_)
  refine lv_iload hx hb dL_law_136 (lv_at hl 0 rfl) ?_
  refine lv_iconst (v := 1) hx hb dL_law_138 (by decide) ?_
  refine lv_icmp_ge (tgt := 168) hx hb dL_law_139 (by decide) (fun c139 => ?_) (fun c139 => ?_)
  · skip
    refine lv_iload hx hb dL_law_168 (lv_at hl 0 rfl) ?_
    refine lv_iconst (v := 2) hx hb dL_law_170 (by decide) ?_
    refine lv_icmp_ge (tgt := 195) hx hb dL_law_171 (by decide) (fun c171 => ?_) (fun c171 => ?_)
    · skip
      refine lv_iload hx hb dL_law_195 (lv_at hl 0 rfl) ?_
      refine lv_iconst (v := 3) hx hb dL_law_197 (by decide) ?_
      refine lv_icmp_ge (tgt := 213) hx hb dL_law_198 (by decide) (fun c198 => ?_) (fun c198 => ?_)
      · skip
        refine lv_iload hx hb dL_law_213 (lv_at hl 0 rfl) ?_
        refine lv_bipush (v := 9) hx hb dL_law_215 (by decide) ?_
        refine lv_icmp_ge (tgt := 349) hx hb dL_law_217 (by decide) (fun c217 => ?_) (fun c217 => ?_)
        · skip
          refine lv_iload hx hb dL_law_349 (lv_at hl 0 rfl) ?_
          refine lv_bipush (v := 13) hx hb dL_law_351 (by decide) ?_
          refine lv_icmp_ge (tgt := 416) hx hb dL_law_353 (by decide) (fun c353 => ?_) (fun c353 => ?_)
          · skip
            refine lv_iload hx hb dL_law_416 (lv_at hl 0 rfl) ?_
            refine lv_bipush (v := 17) hx hb dL_law_418 (by decide) ?_
            refine lv_icmp_ge (tgt := 529) hx hb dL_law_420 (by decide) (fun c420 => ?_) (fun c420 => ?_)
            · skip
              refine lv_iload hx hb dL_law_529 (lv_at hl 0 rfl) ?_
              refine lv_bipush (v := 18) hx hb dL_law_531 (by decide) ?_
              refine lv_icmp_ge (tgt := 627) hx hb dL_law_533 (by decide) (fun c533 => ?_) (fun c533 => ?_)
              · skip
                exact law_pass F9 hJ hj hd hw8 hbf kt hP hS hb1 hb2 (lv_sub hl [1, 2, 3, 4, 5, 6, 7, 8, 9, 10, 11, 12, 0] rfl)
              · skip
                exact law_rev F9 hJ hj hd hw8 hbf kt hP hS hb1 hb2 (lv_sub hl [1, 2, 3, 4, 5, 6, 7, 8, 9, 10, 11, 12, 0] rfl)
            · skip
              exact law_fin F9 hJ hj hd hw8 hbf kt hP hS hb1 hb2 (lv_sub hl [1, 2, 3, 4, 5, 6, 7, 8, 9, 10, 11, 12, 0] rfl)
          · skip
            exact law_take F9 hJ hj hd hw8 hbf kt hP hS hb1 hb2 (lv_sub hl [1, 2, 3, 4, 5, 6, 7, 8, 9, 10, 11, 12, 0] rfl)
        · skip
          exact law_post F9 hJ hj hd hw8 hbf kt hP hS hb1 hb2 (lv_sub hl [1, 2, 3, 4, 5, 6, 7, 8, 9, 10, 11, 12, 0] rfl)
      · skip
        exact law_await F9 hJ hj hd hw8 hbf kt hP hS hb1 hb2 (lv_sub hl [1, 2, 3, 4, 5, 6, 7, 8, 9, 10, 11, 12, 0] rfl)
    · skip
      exact law_pause F9 hJ hj hd hw8 hbf kt hP hS hb1 hb2 (lv_sub hl [1, 2, 3, 4, 5, 6, 7, 8, 9, 10, 11, 12, 0] rfl)
  · skip
    exact law_open F9 hJ hj hd hw8 hbf kt hP hS hb1 hb2 (lv_sub hl [1, 2, 3, 4, 5, 6, 7, 8, 9, 10, 11, 12, 0] rfl)

set_option maxHeartbeats 8000000 in
set_option maxRecDepth 100000 in
theorem law_mid {p : Program} {l : Launch} {e : Env} {s : State} {m : MethodId} {below : List Frame} {meth : Method} {c_ : Code} {b L : Nat} {xs : Nat → Int32} {G : va_G} {k : Nat → ClassId} {h : Nat} {a c : Nat → Nat} (F : LF p l s m meth c_ b L xs G k h a c) {σ : SX} (hJ : yJs σ) {z9 j A B v9 w9 : Nat} {cc nn isW : Int32} {bf : Int64} (hj : j < 58) (hd : σ.2.2.2.2.2 ≤ 7 * j) (hw8 : w9 < 5000000) (hbf : ¬ isW = 0 → f_sum σ = bf) (kt : KT p l e s m below meth c_ b G k h a c z9 isW bf j A B) {H : Heap} {locs : List Loc} {cells slots : Nat} {ls : Array Slot} (hP : va_P G vwCl (WS k h a c σ) H) (hS : yO s H locs) (hb1 : cells + (A + 100) ≤ 756716) (hb2 : slots + (B + 600) ≤ 6824554) (hl : lv_has ls 16 [(0, .ref b), (1, .ref h), (2, .int (nI z9)), (3, .int (nI j)), (4, .int (nI v9)), (5, .int (nI w9)), (6, .int cc), (7, .int (nI σ.2.2.2.2.1)), (8, .int nn), (9, .int isW), (10, .long bf)]) : W p l e room_1 s m #[Value.ref b] below meth c_ H locs cells slots (lw_Z below #[Value.ref b] s) (F0 m 107 ls []) := by
  have F9 := F
  obtain ⟨hx, hb, hr, hml, hown, hts, hX, hbl, hL, hK, hV, hl9, hlocks, hDA⟩ := F
  have hn0 : σ.2.1 ≤ 8 := J_n0 hJ
  have hn1 : σ.2.2.2.2.1 ≤ 80 := J_n1 hJ
  refine lv_iconst (v := 0) hx hb dL_law_107 (by decide) ?_
  refine lv_istore (lv' := [(12, .int 0), (0, .ref b), (1, .ref h), (2, .int (nI z9)), (3, .int (nI j)), (4, .int (nI v9)), (5, .int (nI w9)), (6, .int cc), (7, .int (nI σ.2.2.2.2.1)), (8, .int nn), (9, .int isW), (10, .long bf)]) hx hb dL_law_108 hl (by decide) rfl (fun ls hl => ?_)
  refine lv_iload_n hx hb dL_law_110 rfl (lv_at hl 4 rfl) ?_
  refine lv_iconst (v := 3) hx hb dL_law_111 (by decide) ?_
  refine lv_icmp_ge (tgt := 119) hx hb dL_law_112 (by decide) (fun c112 => ?_) (fun c112 => ?_)
  · skip
    refine lv_iload_n hx hb dL_law_119 rfl (lv_at hl 4 rfl) ?_
    refine lv_bipush (v := 6) hx hb dL_law_120 (by decide) ?_
    refine lv_icmp_ge (tgt := 129) hx hb dL_law_122 (by decide) (fun c122 => ?_) (fun c122 => ?_)
    · skip
      refine lv_iload hx hb dL_law_129 (lv_at hl 5 rfl) ?_
      refine lv_bipush (v := 24) hx hb dL_law_131 (by decide) ?_
      refine lv_irem hx hb dL_law_133 (by decide) ?_
      refine y_top (irem_eq_mod _ _) ?_
      exact law_kind F9 hJ hj hd hw8 hbf kt hP hS hb1 hb2 (lv_sub hl [1, 2, 3, 4, 5, 6, 7, 8, 9, 10, 11, 0] rfl)
    · skip
      refine lv_iconst (v := 3) hx hb dL_law_125 (by decide) ?_
      refine lv_goto (tgt := 134) hx hb dL_law_126 (by decide) ?_
      exact law_kind F9 hJ hj hd hw8 hbf kt hP hS hb1 hb2 (lv_sub hl [1, 2, 3, 4, 5, 6, 7, 8, 9, 10, 11, 0] rfl)
  · skip
    refine lv_iconst (v := 0) hx hb dL_law_115 (by decide) ?_
    refine lv_goto (tgt := 134) hx hb dL_law_116 (by decide) ?_
    exact law_kind F9 hJ hj hd hw8 hbf kt hP hS hb1 hb2 (lv_sub hl [1, 2, 3, 4, 5, 6, 7, 8, 9, 10, 11, 0] rfl)

set_option maxHeartbeats 8000000 in
set_option maxRecDepth 100000 in
theorem law_loop {p : Program} {l : Launch} {e : Env} {s : State} {m : MethodId} {below : List Frame} {meth : Method} {c_ : Code} {b L : Nat} {xs : Nat → Int32} {G : va_G} {k : Nat → ClassId} {h : Nat} {a c : Nat → Nat} (F : LF p l s m meth c_ b L xs G k h a c) {z9 : Nat} (hz : z9 < 58) : ∀ (n j : Nat) {σ : SX} {H : Heap} {locs : List Loc} {cells slots : Nat} {ls : Array Slot}, yJs σ → σ.2.2.2.2.2 ≤ 7 * j → va_P G vwCl (WS k h a c σ) H → yO s H locs → j < 2 ^ 20 → z9 ≤ j + n → cells + 5000 * (n + 2) ≤ 756716 → slots + 30000 * (n + 2) ≤ 6824554 → lv_has ls 16 [(0, .ref b), (1, .ref h), (2, .int (nI z9)), (3, .int (nI j))] → W p l e room_1 s m #[Value.ref b] below meth c_ H locs cells slots (lw_Z below #[Value.ref b] s) (F0 m 21 ls []) := by
  intro n
  induction n with
  | zero =>
    intro j σ H locs cells slots ls hJ hd hP hS hjb hzn hb1 hb2 hl
    have F9 := F
    obtain ⟨hx, hb, hr, hml, hown, hts, hX, hbl, hL, hK, hV, hl9, hlocks, hDA⟩ := F
    have hn0 : σ.2.1 ≤ 8 := J_n0 hJ
    have hn1 : σ.2.2.2.2.1 ≤ 80 := J_n1 hJ
    exact law_big F9 hz (by omega) hJ hP hS (by omega) (by omega) hjb hl
  | succ n ih =>
    intro j σ H locs cells slots ls hJ hd hP hS hjb hzn hb1 hb2 hl
    have F9 := F
    obtain ⟨A0, hA0⟩ : ∃ z, z = 5000 * (n + 2) := ⟨_, rfl⟩
    obtain ⟨B0, hB0⟩ : ∃ z, z = 30000 * (n + 2) := ⟨_, rfl⟩
    have hb1 : cells + (A0 + 5000) ≤ 756716 := by rw [hA0, show 5000 * (n + 2) + 5000 = 5000 * (n + 1 + 2) from by rw [Nat.add_right_comm n 1 2, Nat.mul_add 5000 (n + 2) 1]]; exact hb1
    have hb2 : slots + (B0 + 30000) ≤ 6824554 := by rw [hB0, show 30000 * (n + 2) + 30000 = 30000 * (n + 1 + 2) from by rw [Nat.add_right_comm n 1 2, Nat.mul_add 30000 (n + 2) 1]]; exact hb2
    by_cases hj8 : j < 58
    · skip
      obtain ⟨hx, hb, hr, hml, hown, hts, hX, hbl, hL, hK, hV, hl9, hlocks, hDA⟩ := F
      have hn0 : σ.2.1 ≤ 8 := J_n0 hJ
      have hn1 : σ.2.2.2.2.1 ≤ 80 := J_n1 hJ
      refine lv_iload_n hx hb dL_law_21 rfl (lv_at hl 3 rfl) ?_
      refine lv_iload_n hx hb dL_law_22 rfl (lv_at hl 2 rfl) ?_
      refine lv_icmp_ge (tgt := 770) hx hb dL_law_23 (by decide) (fun c23 => ?_) (fun c23 => ?_)
      · skip
        replace c23 : z9 ≤ j := (nI_leI (a := z9) (b := j) (by omega) (by omega)).mp c23
        exact law_end0 F9 hJ hP hS (by omega) (by omega) (lv_sub hl [1] rfl)
      · skip
        have c23 : j < z9 := Nat.not_le.mp (fun h9 => c23 ((nI_leI (a := z9) (b := j) (by omega) (by omega)).mpr h9))
        refine lv_aload_n hx hb dL_law_26 rfl (lv_at hl 0 rfl) ?_
        refine lv_iconst (v := 1) hx hb dL_law_27 (by decide) ?_
        refine lv_iload_n hx hb dL_law_28 rfl (lv_at hl 3 rfl) ?_
        refine lv_iadd hx hb dL_law_29 ?_
        refine y_lro (va_runS (As := [.ref b, .int (1 + (nI j))]) (rest := []) ⟨hx, hb, hml, hown, hts⟩ (c_at l b L xs (1 + (nI j)) H.size hL (by rw [show (1 : Int32) = nI 1 from rfl, nI_add]; exact nI_pos (by omega))) (va_cwS 2 hts gL_law_L_at rfl rfl rfl (by decide +kernel) ⟨Nat.le_of_ble_eq_true rfl, Nat.le_of_ble_eq_true rfl⟩) (yXp hX hbl hS) rfl rfl hl.1 rfl (lv_room (Nat.le_of_ble_eq_true rfl)) dL_law_30 ⟨show cells + 0 ≤ 756716 by omega, show slots + 0 ≤ 6824554 by omega⟩) hS (fun r H1 locs1 hr9 hk9 hS1 => ?_)
        have hP := yKeep hP hk9
        have hS := hS1
        clear hk9 hS1
        obtain ⟨x9, e_x9⟩ : ∃ z : Int32, z = r := ⟨r, rfl⟩
        rw [← e_x9]
        clear e_x9 hr9
        refine lv_ldc (v := 100000000) hx hb hown (hts (.constant RL 163 100000000) (by decide +kernel)) dL_law_33 ?_
        refine y_roS (As := [.int x9, .int 100000000]) (rest := []) ⟨hx, hb, hml, hown, hts⟩ (c_some l x9 100000000 (by decide) (by decide)) (va_cwS 2 hts gL_law_L_some rfl rfl rfl (by decide +kernel) ⟨Nat.le_of_ble_eq_true rfl, Nat.le_of_ble_eq_true rfl⟩) rfl hl.1 rfl (Nat.le_of_ble_eq_true rfl) dL_law_35 ⟨show cells + 0 ≤ 756716 by omega, show slots + 0 ≤ 6824554 by omega⟩ (fun r hr9 => ?_)
        obtain ⟨v9, b_v9, rfl⟩ := hr9
        refine lv_istore (lv' := [(4, .int (nI v9)), (0, .ref b), (1, .ref h), (2, .int (nI z9)), (3, .int (nI j))]) hx hb dL_law_38 hl (by decide) rfl (fun ls hl => ?_)
        refine lv_iload hx hb dL_law_40 (lv_at hl 0 rfl) ?_
        obtain ⟨w9, hw9⟩ : ∃ z : Nat, z = v9 / 24 := ⟨_, rfl⟩
        have hw8 : w9 < 5000000 := by omega
        refine lv_bipush (v := 24) hx hb dL_law_42 (by decide) ?_
        refine lv_idiv hx hb dL_law_44 (by decide) ?_
        refine y_top ((show nI v9 / 24 = nI w9 from by rw [show (24 : Int32) = nI 24 from rfl, nI_dv (by omega) (by decide), ← hw9])) ?_
        refine lv_istore (lv' := [(5, .int (nI w9)), (4, .int (nI v9)), (0, .ref b), (1, .ref h), (2, .int (nI z9)), (3, .int (nI j))]) hx hb dL_law_45 hl (by decide) rfl (fun ls hl => ?_)
        refine lv_iload hx hb dL_law_47 (lv_at hl 0 rfl) ?_
        refine lv_iconst (v := 1) hx hb dL_law_49 (by decide) ?_
        refine lv_aload_n hx hb dL_law_50 rfl (lv_at hl 3 rfl) ?_
        refine y_lro (va_runS (As := [.ref h]) (rest := [.int 1, .int (nI w9)]) ⟨hx, hb, hml, hown, hts⟩ (c_cases l hl9 G k h a c σ H1.size hJ) (va_cwS 1 hts gL_law_L_cases rfl rfl rfl (by decide +kernel) ⟨Nat.le_of_ble_eq_true rfl, Nat.le_of_ble_eq_true rfl⟩) (yL_pre hS hV hP hK) rfl rfl hl.1 rfl (lv_room (Nat.le_of_ble_eq_true rfl)) dL_law_51 ⟨show cells + 0 + 9 ≤ 756716 by omega, show slots + 0 + 54 ≤ 6824554 by omega⟩) hS (fun r H1 locs1 hr9 hk9 hS1 => ?_)
        have hP := yKeep hP hk9
        have hS := hS1
        clear hk9 hS1
        subst hr9
        refine va_mmax hx hb (hml.trans hl.1.symm) hown (hts (.methodLink RL 164 Lib.Math.max.name) (by decide +kernel)) (hts (.static Lib.Math.max.name) (by decide +kernel)) (hts (.initialized "java/lang/Math") (by decide +kernel)) (hts (.code Lib.Math.max.name Lib.Math.max.code 2 (some .int)) (by decide +kernel)) (Nat.le_of_ble_eq_true rfl) (Nat.le_of_ble_eq_true rfl) (show cells + 0 + 9 ≤ 756716 by omega) (show slots + 0 + 54 ≤ 6824554 by omega) dL_law_54 ?_
        refine y_top (y := mx 1 (nI σ.2.1)) rfl ?_
        refine lv_irem hx hb dL_law_57 mx1_ne ?_
        refine y_top (irem_eq_mod _ _) ?_
        obtain ⟨cc, e_cc⟩ : ∃ z : Int32, z = (nI w9) % (mx 1 (nI σ.2.1)) := ⟨_, rfl⟩
        rw [← e_cc]
        clear e_cc
        refine lv_istore (lv' := [(6, .int cc), (5, .int (nI w9)), (4, .int (nI v9)), (0, .ref b), (1, .ref h), (2, .int (nI z9)), (3, .int (nI j))]) hx hb dL_law_58 hl (by decide) rfl (fun ls hl => ?_)
        refine lv_aload_n hx hb dL_law_60 rfl (lv_at hl 4 rfl) ?_
        refine y_lro (va_runS (As := [.ref h]) (rest := []) ⟨hx, hb, hml, hown, hts⟩ (c_messages l hl9 G k h a c σ H1.size hJ) (va_cwS 1 hts gL_law_L_messages rfl rfl rfl (by decide +kernel) ⟨Nat.le_of_ble_eq_true rfl, Nat.le_of_ble_eq_true rfl⟩) (yL_pre hS hV hP hK) rfl rfl hl.1 rfl (lv_room (Nat.le_of_ble_eq_true rfl)) dL_law_61 ⟨show cells + 0 + 9 + 5 ≤ 756716 by omega, show slots + 0 + 54 + 30 ≤ 6824554 by omega⟩) hS (fun r H1 locs1 hr9 hk9 hS1 => ?_)
        have hP := yKeep hP hk9
        have hS := hS1
        clear hk9 hS1
        subst hr9
        refine lv_istore (lv' := [(7, .int (nI σ.2.2.2.2.1)), (6, .int cc), (5, .int (nI w9)), (4, .int (nI v9)), (0, .ref b), (1, .ref h), (2, .int (nI z9)), (3, .int (nI j))]) hx hb dL_law_64 hl (by decide) rfl (fun ls hl => ?_)
        refine lv_iload hx hb dL_law_66 (lv_at hl 2 rfl) ?_
        refine lv_iconst (v := 3) hx hb dL_law_68 (by decide) ?_
        refine lv_idiv hx hb dL_law_69 (by decide) ?_
        refine lv_iconst (v := 1) hx hb dL_law_70 (by decide) ?_
        refine lv_iload hx hb dL_law_71 (lv_at hl 0 rfl) ?_
        refine va_mmax hx hb (hml.trans hl.1.symm) hown (hts (.methodLink RL 164 Lib.Math.max.name) (by decide +kernel)) (hts (.static Lib.Math.max.name) (by decide +kernel)) (hts (.initialized "java/lang/Math") (by decide +kernel)) (hts (.code Lib.Math.max.name Lib.Math.max.code 2 (some .int)) (by decide +kernel)) (Nat.le_of_ble_eq_true rfl) (Nat.le_of_ble_eq_true rfl) (show cells + 0 + 9 + 5 ≤ 756716 by omega) (show slots + 0 + 54 + 30 ≤ 6824554 by omega) dL_law_73 ?_
        refine y_top (y := mx 1 (nI σ.2.2.2.2.1)) rfl ?_
        refine lv_irem hx hb dL_law_76 mx1_ne ?_
        refine y_top (irem_eq_mod _ _) ?_
        obtain ⟨nn, e_nn⟩ : ∃ z : Int32, z = ((nI w9) / 3) % (mx 1 (nI σ.2.2.2.2.1)) := ⟨_, rfl⟩
        rw [← e_nn]
        clear e_nn
        refine lv_istore (lv' := [(8, .int nn), (7, .int (nI σ.2.2.2.2.1)), (6, .int cc), (5, .int (nI w9)), (4, .int (nI v9)), (0, .ref b), (1, .ref h), (2, .int (nI z9)), (3, .int (nI j))]) hx hb dL_law_77 hl (by decide) rfl (fun ls hl => ?_)
        refine lv_iload_n hx hb dL_law_79 rfl (lv_at hl 8 rfl) ?_
        refine lv_iconst (v := 2) hx hb dL_law_80 (by decide) ?_
        refine lv_irem hx hb dL_law_81 (by decide) ?_
        refine y_top (irem_eq_mod _ _) ?_
        refine lv_if_ne (tgt := 89) hx hb dL_law_82 (by decide) (fun c82 => ?_) (fun c82 => ?_)
        · skip
          refine lv_iconst (v := 0) hx hb dL_law_89 (by decide) ?_
          refine lv_istore (lv' := [(9, .int 0), (8, .int nn), (7, .int (nI σ.2.2.2.2.1)), (6, .int cc), (5, .int (nI w9)), (4, .int (nI v9)), (0, .ref b), (1, .ref h), (2, .int (nI z9)), (3, .int (nI j))]) hx hb dL_law_90 hl (by decide) rfl (fun ls hl => ?_)
          refine lv_iload hx hb dL_law_92 (lv_at hl 0 rfl) ?_
          refine lv_if_eq (tgt := 104) hx hb dL_law_94 (by decide) (fun _ => ?_) (fun c9 => absurd c9 (by decide))
          refine lv_lconst (v := 0) hx hb dL_law_104 rfl ?_
          refine lv_lstore (lv' := [(10, .long 0), (9, .int 0), (8, .int nn), (7, .int (nI σ.2.2.2.2.1)), (6, .int cc), (5, .int (nI w9)), (4, .int (nI v9)), (0, .ref b), (1, .ref h), (2, .int (nI z9)), (3, .int (nI j))]) hx hb dL_law_105 hl (by decide) rfl (fun ls hl => ?_)
          exact law_mid F9 (v9 := v9) hJ (by omega) hd hw8 (fun h9 => absurd rfl h9) (law_tail F9 (by omega) (fun σ H locs cells slots ls hJ hd hP hS hb1 hb2 hl => ih (j + 1) hJ hd hP hS (by omega) (by omega) (by rw [← hA0]; exact hb1) (by rw [← hB0]; exact hb2) hl)) hP hS (by omega) (by omega) (lv_sub hl [7, 8, 9, 10, 6, 5, 4, 3, 2, 1, 0] rfl)
        · skip
          refine lv_iconst (v := 1) hx hb dL_law_85 (by decide) ?_
          refine lv_goto (tgt := 90) hx hb dL_law_86 (by decide) ?_
          refine lv_istore (lv' := [(9, .int 1), (8, .int nn), (7, .int (nI σ.2.2.2.2.1)), (6, .int cc), (5, .int (nI w9)), (4, .int (nI v9)), (0, .ref b), (1, .ref h), (2, .int (nI z9)), (3, .int (nI j))]) hx hb dL_law_90 hl (by decide) rfl (fun ls hl => ?_)
          refine lv_iload hx hb dL_law_92 (lv_at hl 0 rfl) ?_
          refine lv_if_eq (tgt := 104) hx hb dL_law_94 (by decide) (fun c9 => absurd c9 (by decide)) (fun _ => ?_)
          refine lv_aload_n hx hb dL_law_97 rfl (lv_at hl 7 rfl) ?_
          refine y_lroL (va_runS (As := [.ref h]) (rest := []) ⟨hx, hb, hml, hown, hts⟩ (c_sum l hl9 G k h a c σ H1.size hJ) (va_cwS 1 hts gL_law_L_sum rfl rfl rfl (by decide +kernel) ⟨Nat.le_of_ble_eq_true rfl, Nat.le_of_ble_eq_true rfl⟩) (yL_pre hS hV hP hK) rfl rfl hl.1 rfl (lv_room (Nat.le_of_ble_eq_true rfl)) dL_law_98 ⟨show cells + 0 + 9 + 5 + 600 ≤ 756716 by omega, show slots + 0 + 54 + 30 + 3600 ≤ 6824554 by omega⟩) hS (fun r H1 locs1 hr9 hk9 hS1 => ?_)
          have hP := yKeep hP hk9
          have hS := hS1
          clear hk9 hS1
          subst hr9
          refine lv_goto (tgt := 105) hx hb dL_law_101 (by decide) ?_
          refine lv_lstore (lv' := [(10, .long (f_sum σ)), (9, .int 1), (8, .int nn), (7, .int (nI σ.2.2.2.2.1)), (6, .int cc), (5, .int (nI w9)), (4, .int (nI v9)), (0, .ref b), (1, .ref h), (2, .int (nI z9)), (3, .int (nI j))]) hx hb dL_law_105 hl (by decide) rfl (fun ls hl => ?_)
          exact law_mid F9 (v9 := v9) hJ (by omega) hd hw8 (fun _ => rfl) (law_tail F9 (by omega) (fun σ H locs cells slots ls hJ hd hP hS hb1 hb2 hl => ih (j + 1) hJ hd hP hS (by omega) (by omega) (by rw [← hA0]; exact hb1) (by rw [← hB0]; exact hb2) hl)) hP hS (by omega) (by omega) (lv_sub hl [7, 8, 9, 10, 6, 5, 4, 3, 2, 1, 0] rfl)
    · exact law_big F hz (by omega) hJ hP hS (by omega) (by omega) hjb hl
