set_option maxHeartbeats 4000000 in
set_option maxRecDepth 100000 in
theorem law_loop {p : Program} {l : Launch} {e : Env} {s : State} {m : MethodId} {below : List Frame} {meth : Method} {c_ : Code} {b L : Nat} {xs : Nat → Int32} {G : va_G} {k : Nat → ClassId} {oL oD h : Nat} {a c a3 : Nat → Nat} (F : LF p l s m meth c_ b L xs G k) (hlocks : meth.locks = false) (hL : L ≤ 3584) : ∀ (n j cells slots : Nat), L < 7 * (j + n) → cells ≤ 38 + 6 * j → slots ≤ 1812 + 36 * j → 7 * j ≤ L → ∀ (fL : Nat → Int64) (fD : Nat → UInt64) (C : Nat → Nat → Int32) (n0 : Nat) (M : Nat → Nat → Int32) (ds n1 d : Nat) (R : Nat → Nat → Int32) (th : Int32) (H : Heap) (locs : List Loc) (hP : va_P G vwCl (WA k oL fL oD fD h a c a3 C n0 M ds n1 d R th) H) (hD : va_D (fun q : Nat => s.heap.size ≤ q) (WA k oL fL oD fD h a c a3 C n0 M ds n1 d R th)) (hY : yY C n0 M ds n1 d R) (hS : va_S (fun q : Nat => s.heap.size ≤ q) s.heap H locs) (ls : Array Slot) (hl : lv_has ls 9 [(0, .ref b), (1, .ref h), (2, .ref (a3 0)), (3, .ref oL), (4, .ref oD), (5, .int (nI (7 * j)))]), W p l e room_1 s m #[Value.ref b] below meth c_ H locs cells slots (lw_Z below #[Value.ref b] s) (F0 m 28 ls []) := by
  have F9 := F
  obtain ⟨hx, hb, hr, hml, hown, hts, hX, hbl, hL9, hK, hE, hNC, hl9⟩ := F
  have hbA : ¬ (fun q : Nat => s.heap.size ≤ q) b := Nat.not_le.mpr hbl
  intro n
  induction n with
  | zero => intro j cells slots h1 _ _ h4; exact absurd h1 (by omega)
  | succ n ih =>
    intro j cells slots h1 h2 h3 h4 fL fD C n0 M ds n1 d R th H locs hP hD hY hS ls hl
    refine lv_iload hx hb dL_law_28 (lv_at hl 5 rfl) ?_
    refine lv_aload_n hx hb dL_law_30 rfl (lv_at hl 0 rfl) ?_
    refine va_slen hx hb hX hbl hbA hS dL_law_31 ?_
    refine lv_bipush (v := 7) hx hb dL_law_32 (by decide) ?_
    refine lv_isub hx hb dL_law_34 ?_
    have e7 : (nI L - 7).toInt = (L : Int) - 7 := by
      rw [toI_sub (nI_ge0 (by omega)) (by decide), nI_toInt (by omega)]; rfl
    refine lv_icmp_gt (tgt := 1730) hx hb dL_law_35 (by decide) (fun c1 => ?_) (fun c1 => ?_)
    · refine lv_iconst (v := 1) hx hb dL_law_1730 (by decide) ?_
      refine va_forget (fun q hq => hS.2.2 q hq) ?_
      refine W.widen (k := 3132) (n := 120728) (by omega) (by omega) ?_
      exact lw_ret (d0 := s.drawn) (Drawn.sameBut.refl s.drawn lw_cs) hx hb hr hlocks dL_law_1731
    · have hi : 7 * j + 7 ≤ L := by
        have h5 : ¬ (nI L - 7).toInt < (nI (7 * j)).toInt := fun h9 => c1 (Int32.lt_iff_toInt_lt.mpr h9)
        rw [e7, nI_toInt (by omega)] at h5; omega
      have hc : cells + 6 ≤ 3132 ∧ slots + 36 ≤ 120728 := ⟨by omega, by omega⟩
      have kk : LK p l e s m below meth c_ b G k oL oD h a c a3 (7 * j) cells slots (lw_Z below #[Value.ref b] s) := by
        intro fL9 fD9 C9 n09 M9 ds9 n19 d9 R9 th9 H9 locs9 ls9 hP9 hY9 hS9 hl9
        have hD9 : va_D (fun q : Nat => s.heap.size ≤ q) (WA k oL fL9 oD fD9 h a c a3 C9 n09 M9 ds9 n19 d9 R9 th9) := yD hD rfl
        obtain ⟨y, ey⟩ : ∃ y : Int32, y = nI (7 * j) + 7 := ⟨_, rfl⟩
        refine lv_iinc (v := y) (lv' := [(5, .int y), (0, .ref b), (1, .ref h), (2, .ref (a3 0)), (3, .ref oL), (4, .ref oD)]) hx hb dL_law_1724 hl9 (k := 5) rfl (by rw [ey]; rfl) (by decide) rfl (fun ls hl => ?_)
        refine lv_goto (tgt := 28) hx hb dL_law_1727 (by decide) ?_
        have ey2 : y = nI (7 * (j + 1)) := by
          rw [ey]; apply Int32.toInt_inj.mp
          rw [Int32.toInt_add, nI_toInt (by omega), nI_toInt (by omega), show (7 : Int32).toInt = 7 from rfl, Int.bmod_def]; split <;> omega
        rw [ey2] at hl
        exact ih (j + 1) (cells + 6) (slots + 36) (by omega) (by omega) (by omega) (by omega) _ _ _ _ _ _ _ _ _ _ _ _ hP9 hD9 hY9 hS9 ls (lv_sub hl [1, 2, 3, 4, 5, 0] rfl)
      refine lv_aload_n hx hb dL_law_38 rfl (lv_at hl 0 rfl) ?_
      refine lv_iload hx hb dL_law_39 (lv_at hl 5 rfl) ?_
      refine va_sld hx hb hX hbl hbA hS (vp_in_nI (by omega) (by omega)) dL_law_41 ?_
      refine lv_bipush (v := 31) hx hb dL_law_42 (by decide) ?_
      refine lv_iand hx hb dL_law_44 ?_
      refine lv_topi (fun y ey => ?_)
      clear ey
      by_cases ho : y.toInt < 0 ∨ 25 < y.toInt
      · refine lv_tableOut (tgt := 1724) hx hb dL_law_45 ho (by decide) ?_
        refine W.widen (k := cells + 6) (n := slots + 36) (by omega) (by omega) ?_
        exact kk hP hY hS hl
      · have g1 : ¬ y.toInt < 0 := fun h9 => ho (Or.inl h9)
        have g2 : ¬ 25 < y.toInt := fun h9 => ho (Or.inr h9)
        by_cases g10 : y.toInt = 0
        · refine lv_tableIn (off := 119) (tgt := 164) hx hb dL_law_45 g1 g2 (by rw [g10]; rfl) (by decide) ?_
          exact law_open F9 hi hc hP hD hY hS hl kk
        by_cases g11 : y.toInt = 1
        · refine lv_tableIn (off := 187) (tgt := 232) hx hb dL_law_45 g1 g2 (by rw [g11]; rfl) (by decide) ?_
          exact law_amount F9 hi hc hP hD hY hS hl kk
        by_cases g12 : y.toInt = 2
        · refine lv_tableIn (off := 243) (tgt := 288) hx hb dL_law_45 g1 g2 (by rw [g12]; rfl) (by decide) ?_
          exact law_pause F9 hi hc hP hD hY hS hl kk
        by_cases g13 : y.toInt = 3
        · refine lv_tableIn (off := 311) (tgt := 356) hx hb dL_law_45 g1 g2 (by rw [g13]; rfl) (by decide) ?_
          exact law_awaitNote F9 hi hc hP hD hY hS hl kk
        by_cases g14 : y.toInt = 4
        · refine lv_tableIn (off := 374) (tgt := 419) hx hb dL_law_45 g1 g2 (by rw [g14]; rfl) (by decide) ?_
          exact law_letters F9 hi hc hP hD hY hS hl kk
        by_cases g15 : y.toInt = 5
        · refine lv_tableIn (off := 430) (tgt := 475) hx hb dL_law_45 g1 g2 (by rw [g15]; rfl) (by decide) ?_
          exact law_lettersByMessages F9 hi hc hP hD hY hS hl kk
        by_cases g16 : y.toInt = 6
        · refine lv_tableIn (off := 486) (tgt := 531) hx hb dL_law_45 g1 g2 (by rw [g16]; rfl) (by decide) ?_
          exact law_nextReminder F9 hi hc hP hD hY hS hl kk
        by_cases g17 : y.toInt = 7
        · refine lv_tableIn (off := 542) (tgt := 587) hx hb dL_law_45 g1 g2 (by rw [g17]; rfl) (by decide) ?_
          exact law_post F9 hi hc hP hD hY hS hl kk
        by_cases g18 : y.toInt = 8
        · refine lv_tableIn (off := 662) (tgt := 707) hx hb dL_law_45 g1 g2 (by rw [g18]; rfl) (by decide) ?_
          exact law_withKey F9 hi hc hP hD hY hS hl kk
        by_cases g19 : y.toInt = 9
        · refine lv_tableIn (off := 718) (tgt := 763) hx hb dL_law_45 g1 g2 (by rw [g19]; rfl) (by decide) ?_
          exact law_state F9 hi hc hP hD hY hS hl kk
        by_cases g20 : y.toInt = 10
        · refine lv_tableIn (off := 774) (tgt := 819) hx hb dL_law_45 g1 g2 (by rw [g20]; rfl) (by decide) ?_
          exact law_kind F9 hi hc hP hD hY hS hl kk
        by_cases g21 : y.toInt = 11
        · refine lv_tableIn (off := 830) (tgt := 875) hx hb dL_law_45 g1 g2 (by rw [g21]; rfl) (by decide) ?_
          exact law_tries F9 hi hc hP hD hY hS hl kk
        by_cases g22 : y.toInt = 12
        · refine lv_tableIn (off := 886) (tgt := 931) hx hb dL_law_45 g1 g2 (by rw [g22]; rfl) (by decide) ?_
          exact law_readyAt F9 hi hc hP hD hY hS hl kk
        by_cases g23 : y.toInt = 13
        · refine lv_tableIn (off := 942) (tgt := 987) hx hb dL_law_45 g1 g2 (by rw [g23]; rfl) (by decide) ?_
          exact law_ready F9 hi hc hP hD hY hS hl kk
        by_cases g24 : y.toInt = 14
        · refine lv_tableIn (off := 998) (tgt := 1043) hx hb dL_law_45 g1 g2 (by rw [g24]; rfl) (by decide) ?_
          exact law_readyAtPlace F9 hi hc hP hD hY hS hl kk
        by_cases g25 : y.toInt = 15
        · refine lv_tableIn (off := 1066) (tgt := 1111) hx hb dL_law_45 g1 g2 (by rw [g25]; rfl) (by decide) ?_
          exact law_take F9 hi hc hP hD hY hS hl kk
        by_cases g26 : y.toInt = 16
        · refine lv_tableIn (off := 1134) (tgt := 1179) hx hb dL_law_45 g1 g2 (by rw [g26]; rfl) (by decide) ?_
          exact law_finish F9 hi hc hP hD hY hS hl kk
        by_cases g27 : y.toInt = 17
        · refine lv_tableIn (off := 1197) (tgt := 1242) hx hb dL_law_45 g1 g2 (by rw [g27]; rfl) (by decide) ?_
          exact law_handBack F9 hi hc hP hD hY hS hl kk
        by_cases g28 : y.toInt = 18
        · refine lv_tableIn (off := 1253) (tgt := 1298) hx hb dL_law_45 g1 g2 (by rw [g28]; rfl) (by decide) ?_
          exact law_revive F9 hi hc hP hD hY hS hl kk
        by_cases g29 : y.toInt = 19
        · refine lv_tableIn (off := 1309) (tgt := 1354) hx hb dL_law_45 g1 g2 (by rw [g29]; rfl) (by decide) ?_
          exact law_clerk F9 hi hc hP hD hY hS hl kk
        by_cases g30 : y.toInt = 20
        · refine lv_tableIn (off := 1365) (tgt := 1410) hx hb dL_law_45 g1 g2 (by rw [g30]; rfl) (by decide) ?_
          exact law_has F9 hi hc hP hD hY hS hl kk
        by_cases g31 : y.toInt = 21
        · refine lv_tableIn (off := 1421) (tgt := 1466) hx hb dL_law_45 g1 g2 (by rw [g31]; rfl) (by decide) ?_
          exact law_pass F9 hi hc hP hD hY hS hl kk
        by_cases g32 : y.toInt = 22
        · refine lv_tableIn (off := 1477) (tgt := 1522) hx hb dL_law_45 g1 g2 (by rw [g32]; rfl) (by decide) ?_
          exact law_day F9 hc hP hD hY hS hl kk
        by_cases g33 : y.toInt = 23
        · refine lv_tableIn (off := 1490) (tgt := 1535) hx hb dL_law_45 g1 g2 (by rw [g33]; rfl) (by decide) ?_
          exact law_count F9 hi hc hP hD hY hS hl kk
        by_cases g34 : y.toInt = 24
        · refine lv_tableIn (off := 1548) (tgt := 1593) hx hb dL_law_45 g1 g2 (by rw [g34]; rfl) (by decide) ?_
          exact law_doneShare F9 hc hP hD hY hS hl kk
        have g35 : y.toInt = 25 := by omega
        refine lv_tableIn (off := 1614) (tgt := 1659) hx hb dL_law_45 g1 g2 (by rw [g35]; rfl) (by decide) ?_
        exact law_meanAmount F9 hc hP hD hY hS hl kk
