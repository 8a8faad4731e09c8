/-! what the law asks of the calls -/
theorem pbk_r1 {la t : Int32} : ∀ {r i : Nat} {M : Nat → Nat → Int32}, pbk la t r i M 1 = M 1
  | 0, _, _ => rfl
  | r + 1, i, M => by
    show pbk la t r (i + 1) (pst la t i M) 1 = M 1
    rw [pbk_r1]
    unfold pst pb
    repeat' split
    all_goals rfl
section
variable {σ : SX}
theorem pass_1 (h : yJs σ) (hd : σ.2.2.2.2.2 + 1 ≤ 999) : (g_pass 1 σ).2.2.2.2.2 = σ.2.2.2.2.2 + 1 ∧ ¬ f_pass 1 σ < 0 ∧ nI (g_pass 1 σ).2.2.2.2.1 = nI σ.2.2.2.2.1 + f_pass 1 σ ∧ yJs (g_pass 1 σ) := by
  have e1 : (1 : Int32) = nI 1 := rfl
  obtain ⟨k1, k2⟩ := J_pass h (Nat.le_refl 1) (by decide) hd
  have e2 := pass_f h (Nat.le_refl 1) (by decide) hd
  have e3 := pass_v h (Nat.le_refl 1) (by decide) hd
  have e4 := pds_c (C := σ.1) (n0 := σ.2.1) (r := 1) (d := σ.2.2.2.2.2) (u := (0, σ.2.2.1, σ.2.2.2.2.1))
  have e5 : (g_pass (nI 1) σ).2.2.2.2.1 = (pdsC σ.1 σ.2.1 1 σ.2.2.2.2.2 (0, σ.2.2.1, σ.2.2.2.2.1)).2.2 := by
    show (o_passC (nI 1) σ.1 σ.2.1 σ.2.2.1 σ.2.2.2.2.1 σ.2.2.2.2.2).2.1.2.2 = _
    rw [e3]
  have e6 : (pdsC σ.1 σ.2.1 1 σ.2.2.2.2.2 (0, σ.2.2.1, σ.2.2.2.2.1)).2.2 + 0 = σ.2.2.2.2.1 + (pdsC σ.1 σ.2.1 1 σ.2.2.2.2.2 (0, σ.2.2.1, σ.2.2.2.2.1)).1 := e4
  have h1 := J_n1 k1
  rw [e1]
  refine ⟨k2, ?_, ?_, k1⟩
  · rw [e2]; exact nI_pos (by omega)
  · rw [e2, e5, nI_add]; congr 1
theorem pass_due (h : yJs σ) (hd : σ.2.2.2.2.2 + 1 ≤ 999) {i : Nat} (hi : i < σ.2.1) (hn : ¬ f_of 3 (nI i) σ < 0) (he : f_of 3 (nI i) σ = nI σ.2.2.2.2.2 + 1) (hm : nI σ.2.2.2.2.1 < 70) : ¬ f_pass 1 σ < 1 := by
  have e1 : (1 : Int32) = nI 1 := rfl
  have h0 := J_n0 h
  have h1 := J_n1 h
  have hy := of_may h hi hn
  rw [of_3y h hi hy] at he
  have h70 : σ.2.2.2.2.1 < 70 := (yn_lt (by omega) (by decide)).mp (show nI σ.2.2.2.2.1 < nI 70 from hm)
  have hr : rfr σ.1 i ≤ nI (σ.2.2.2.2.2 + 1) := by
    have h3 : mx (nI (σ.2.2.2.2.2 + 1)) (rfr σ.1 i) ≤ nI (σ.2.2.2.2.2 + 1) := by rw [he, nI_1]; exact Int32.le_refl _
    exact (mx_le.mp h3).2
  have hK : ∀ c, c < σ.2.1 → ∃ L : Nat, L ≤ 3 ∧ σ.1 2 c = nI L := fun c hc => by
    obtain ⟨L, a1, a2, _⟩ := h.2.2.2 c hc
    exact ⟨L, a1, a2⟩
  have hy2 : may σ.1 (pbk (nI (σ.2.2.2.2.2 + 1) - 5) (nI (σ.2.2.2.2.2 + 1)) σ.2.2.2.2.1 0 σ.2.2.1) σ.2.2.2.2.1 i := ⟨hy.1, by rw [pbk_r1]; exact hy.2⟩
  have h5 := rms_due hK h0 (t := nI (σ.2.2.2.2.2 + 1)) hi hr (r := σ.2.1) (c := 0) (u := (0, pbk (nI (σ.2.2.2.2.2 + 1) - 5) (nI (σ.2.2.2.2.2 + 1)) σ.2.2.2.2.1 0 σ.2.2.1, σ.2.2.2.2.1)) (Nat.zero_le _) (by omega) (by omega) (by show σ.2.2.2.2.1 + (i - 0) < 80; omega) hy2
  have e2 := pass_f h (Nat.le_refl 1) (by decide) hd
  have e6 := pds_c (C := σ.1) (n0 := σ.2.1) (r := 1) (d := σ.2.2.2.2.2) (u := (0, σ.2.2.1, σ.2.2.2.2.1))
  have e7 : (pdsC σ.1 σ.2.1 1 σ.2.2.2.2.2 (0, σ.2.2.1, σ.2.2.2.2.1)).1 = 0 + (pdC σ.1 σ.2.1 σ.2.2.2.2.2 σ.2.2.1 σ.2.2.2.2.1).1 := rfl
  have e8 : 0 < (pdC σ.1 σ.2.1 σ.2.2.2.2.2 σ.2.2.1 σ.2.2.2.2.1).1 := h5
  have e9 := (pdC_n (C := σ.1) (n0 := σ.2.1) (d := σ.2.2.2.2.2) (M := σ.2.2.1) h1).2
  rw [e1, e2]
  exact Int32.not_lt.mpr (yn_le (by omega) (by omega))
theorem post_c (h : yJs σ) {q key kd x v dl : Int32} (h2 : ¬ f_post q key kd x v dl σ < 0) : f_wk key (g_post q key kd x v dl σ) = f_post q key kd x v dl σ ∧ (¬ f_wk key σ < 0 → f_wk key σ = f_post q key kd x v dl σ ∧ nI (g_post q key kd x v dl σ).2.2.2.2.1 = nI σ.2.2.2.2.1) ∧ (f_wk key σ < 0 → f_post q key kd x v dl σ = nI σ.2.2.2.2.1) := by
  have hJ' := J_post h q key kd x v dl
  have hn := J_n1 h
  by_cases h1 : okp q key kd x v dl
  · by_cases h3 : fnd (σ.2.2.1 1) key σ.2.2.2.2.1 0 = none
    · by_cases h4 : σ.2.2.2.2.1 = 80
      · have e : o_post q key kd x v dl σ.2.1 σ.2.2.1 σ.2.2.2.2.1 σ.2.2.2.2.2 = (2, 0, σ.2.2.1, σ.2.2.2.2.1) := by unfold o_post; rw [if_pos h1, if_pos h3, if_pos h4]
        unfold f_post at h2
        rw [e] at h2
        exact absurd (show er 2 0 < 0 by unfold er; decide) h2
      · have e : o_post q key kd x v dl σ.2.1 σ.2.2.1 σ.2.2.2.2.1 σ.2.2.2.2.2 = (0, nI σ.2.2.2.2.1, mad2 σ.2.2.1 σ.2.2.2.2.1 q key kd x v (nI σ.2.2.2.2.2 + dl) (if x < nI σ.2.1 then 119 else 104), σ.2.2.2.2.1 + 1) := by unfold o_post; rw [if_pos h1, if_pos h3, if_neg h4]
        have ef : f_post q key kd x v dl σ = nI σ.2.2.2.2.1 := by unfold f_post; rw [e]; exact er_0 rfl
        have eg : g_post q key kd x v dl σ = (σ.1, σ.2.1, mad2 σ.2.2.1 σ.2.2.2.2.1 q key kd x v (nI σ.2.2.2.2.2 + dl) (if x < nI σ.2.1 then 119 else 104), σ.2.2.2.1, σ.2.2.2.2.1 + 1, σ.2.2.2.2.2) := by unfold g_post; rw [e]
        rw [eg] at hJ' ⊢
        refine ⟨?_, fun h9 => absurd (by rw [wk_n h3]; decide) h9, fun _ => ef⟩
        rw [ef]
        exact wk_s (σ := (σ.1, σ.2.1, mad2 σ.2.2.1 σ.2.2.2.2.1 q key kd x v (nI σ.2.2.2.2.2 + dl) (if x < nI σ.2.1 then 119 else 104), σ.2.2.2.1, σ.2.2.2.2.1 + 1, σ.2.2.2.2.2)) (fnd_at hJ'.2.2.1 (Nat.lt_succ_self _) (mad_at2 (M := σ.2.2.1) (n := σ.2.2.2.2.1) (q := q) (key := key) (kd := kd) (cs := x) (ct := v) (t := nI σ.2.2.2.2.2 + dl) (st := if x < nI σ.2.1 then 119 else 104)).1)
    · cases hf : fnd (σ.2.2.1 1) key σ.2.2.2.2.1 0 with
      | none => exact absurd hf h3
      | some j =>
        obtain ⟨g1, g2, g3⟩ := fnd_lt hf
        have e : o_post q key kd x v dl σ.2.1 σ.2.2.1 σ.2.2.2.2.1 σ.2.2.2.2.2 = (0, nI j, σ.2.2.1, σ.2.2.2.2.1) := by unfold o_post; rw [if_pos h1, if_neg h3, hf]; rfl
        have ef : f_post q key kd x v dl σ = nI j := by unfold f_post; rw [e]; exact er_0 rfl
        have eg : g_post q key kd x v dl σ = σ := by
          show (σ.1, σ.2.1, (o_post q key kd x v dl σ.2.1 σ.2.2.1 σ.2.2.2.2.1 σ.2.2.2.2.2).2.2.1, σ.2.2.2.1, (o_post q key kd x v dl σ.2.1 σ.2.2.1 σ.2.2.2.2.1 σ.2.2.2.2.2).2.2.2, σ.2.2.2.2.2) = σ
          rw [e]
        rw [eg, ef, wk_s hf]
        exact ⟨rfl, fun _ => ⟨rfl, rfl⟩, fun h9 => absurd h9 (nI_pos (by omega))⟩
  · have e : o_post q key kd x v dl σ.2.1 σ.2.2.1 σ.2.2.2.2.1 σ.2.2.2.2.2 = (1, 0, σ.2.2.1, σ.2.2.2.2.1) := by unfold o_post; rw [if_neg h1]
    unfold f_post at h2
    rw [e] at h2
    exact absurd (show er 1 0 < 0 by unfold er; decide) h2
theorem take_c (h : yJs σ) {u q : Int32} (h2 : ¬ f_take u q σ < 0) : f_take u q σ = f_rap q 0 σ ∧ f_msg 4 (f_take u q σ) (g_take u q σ) = u := by
  have hJ' := J_take h u q
  have hn := J_n1 h
  by_cases h1 : rg 0 3 u
  · by_cases h3 : rg 0 2 q
    · by_cases h4 : 2 ≤ cnt (fun z => decide (tkn σ.2.2.1 u z)) σ.2.2.2.2.1 0 0
      · have e : o_takeC u q σ.2.2.1 σ.2.2.2.2.1 σ.2.2.2.2.2 = (2, 0, σ.2.2.1) := by unfold o_takeC; rw [if_pos h1, if_pos h3, if_pos h4]
        unfold f_take at h2
        rw [e] at h2
        exact absurd (show er 2 0 < 0 by unfold er; decide) h2
      · have hm := nxt_0 (M := σ.2.2.1) (q := q) (t := nI σ.2.2.2.2.2) (pv := none) (n := σ.2.2.2.2.1)
        cases hx : nxt σ.2.2.1 q (nI σ.2.2.2.2.2) none σ.2.2.2.2.1 0 none with
        | none =>
          have e : o_takeC u q σ.2.2.1 σ.2.2.2.2.1 σ.2.2.2.2.2 = (3, 0, σ.2.2.1) := by unfold o_takeC; rw [if_pos h1, if_pos h3, if_neg h4, hx]; rfl
          unfold f_take at h2
          rw [e] at h2
          exact absurd (show er 3 0 < 0 by unfold er; decide) h2
        | some j =>
          rw [hx] at hm
          have hj : j < σ.2.2.2.2.1 := hm.1
          have hr : rdy σ.2.2.1 q (nI σ.2.2.2.2.2) j := hm.2.1.1
          have e : o_takeC u q σ.2.2.1 σ.2.2.2.2.1 σ.2.2.2.2.2 = (0, nI j, w2 (w2 (w2 σ.2.2.1 5 j 116) 8 j u) 9 j (nI σ.2.2.2.2.2)) := by unfold o_takeC; rw [if_pos h1, if_pos h3, if_neg h4, hx]; rfl
          have ef : f_take u q σ = nI j := by unfold f_take; rw [e]; exact er_0 rfl
          have eg : g_take u q σ = (σ.1, σ.2.1, w2 (w2 (w2 σ.2.2.1 5 j 116) 8 j u) 9 j (nI σ.2.2.2.2.2), σ.2.2.2.1, σ.2.2.2.2.1, σ.2.2.2.2.2) := by unfold g_take; rw [e]
          have hc : 0 < crd σ.2.2.1 q (nI σ.2.2.2.2.2) σ.2.2.2.2.1 := cnt_pos (z := j) (Nat.zero_le _) (by omega) (decide_eq_true hr)
          have e2 : o_rapC q 0 σ.2.2.1 σ.2.2.2.2.1 σ.2.2.2.2.2 = (0, nI j) := by
            unfold o_rapC
            have hc2 := crd_le (M := σ.2.2.1) (q := q) (t := nI σ.2.2.2.2.2) (n := σ.2.2.2.2.1)
            rw [if_pos h3, if_pos ⟨by decide, (yn_lt (a := 0) (by decide) (by unfold crd at hc2; omega)).mpr hc⟩]
            show ((0 : Int32), oI (nxt σ.2.2.1 q (nI σ.2.2.2.2.2) none σ.2.2.2.2.1 0 none)) = _
            rw [hx]; rfl
          rw [eg] at hJ' ⊢
          rw [ef]
          refine ⟨?_, ?_⟩
          · unfold f_rap; rw [e2]; exact (er_0 rfl).symm
          · rw [msg_4 hJ' hj]
            show (if w2 (w2 (w2 σ.2.2.1 5 j 116) 8 j u) 9 j (nI σ.2.2.2.2.2) 5 j = 116 then w2 (w2 (w2 σ.2.2.1 5 j 116) 8 j u) 9 j (nI σ.2.2.2.2.2) 8 j else -1002) = u
            rw [if_pos (by rw [w2_x (by omega), w2_x (by omega), w2_s]), w2_x (by omega), w2_s]
    · have e : o_takeC u q σ.2.2.1 σ.2.2.2.2.1 σ.2.2.2.2.2 = (1, 0, σ.2.2.1) := by unfold o_takeC; rw [if_pos h1, if_neg h3]
      unfold f_take at h2
      rw [e] at h2
      exact absurd (show er 1 0 < 0 by unfold er; decide) h2
  · have e : o_takeC u q σ.2.2.1 σ.2.2.2.2.1 σ.2.2.2.2.2 = (1, 0, σ.2.2.1) := by unfold o_takeC; rw [if_neg h1]
    unfold f_take at h2
    rw [e] at h2
    exact absurd (show er 1 0 < 0 by unfold er; decide) h2
theorem fin_c (h : yJs σ) {x : Int32} (h2 : ¬ f_fin x σ < 0) : f_msg 0 x (g_fin x σ) = 100 := by
  have hJ' := J_fin h x
  have hn := J_n1 h
  by_cases h1 : inR x σ.2.2.2.2.1
  · by_cases h5 : σ.2.2.1 5 (cl x) = 116
    · have h3 := cl_lt (by omega) h1
      have e : (o_finishC x σ.1 σ.2.2.1 σ.2.2.2.1 σ.2.2.2.2.1).2.2.2.1 = w2 (w2 σ.2.2.1 5 (cl x) 100) 10 σ.2.2.2.1 x := by unfold o_finishC; rw [if_pos h1, if_pos h5]
      have e2 := msg_0 hJ' (i := cl x) h3.1
      rw [h3.2] at e2
      rw [e2]
      show (o_finishC x σ.1 σ.2.2.1 σ.2.2.2.1 σ.2.2.2.2.1).2.2.2.1 5 (cl x) = 100
      rw [e, w2_x (by omega), w2_s]
    · have e : (o_finishC x σ.1 σ.2.2.1 σ.2.2.2.1 σ.2.2.2.2.1).1 = 2 := by unfold o_finishC; rw [if_pos h1, if_neg h5]
      unfold f_fin at h2
      exact absurd (er_ge (Or.inr (Or.inr (Or.inl e))) h2) (by rw [e]; decide)
  · have e : (o_finishC x σ.1 σ.2.2.1 σ.2.2.2.1 σ.2.2.2.2.1).1 = 1 := by unfold o_finishC; rw [if_neg h1]
    unfold f_fin at h2
    exact absurd (er_ge (Or.inr (Or.inl e)) h2) (by rw [e]; decide)
theorem hb_c (h : yJs σ) {x : Int32} (h2 : ¬ f_hb x σ < 0) : ¬ f_msg 0 x (g_hb x σ) = 116 := by
  have hJ' := J_hb h x
  have hn := J_n1 h
  by_cases h1 : inR x σ.2.2.2.2.1
  · by_cases h5 : σ.2.2.1 5 (cl x) = 116
    · have h3 := cl_lt (by omega) h1
      have e : (o_handBackC x σ.2.2.1 σ.2.2.2.2.1 σ.2.2.2.2.2).2.2 = pb σ.2.2.1 (cl x) (nI σ.2.2.2.2.2) := by unfold o_handBackC; rw [if_pos h1, if_pos h5]
      have e2 := msg_0 hJ' (i := cl x) h3.1
      rw [h3.2] at e2
      rw [e2]
      show ¬ (o_handBackC x σ.2.2.1 σ.2.2.2.2.1 σ.2.2.2.2.2).2.2 5 (cl x) = 116
      rw [e]
      unfold pb
      split
      · rw [w2_x (by omega), w2_s]; decide
      · rw [w2_s]; decide
    · have e : (o_handBackC x σ.2.2.1 σ.2.2.2.2.1 σ.2.2.2.2.2).1 = 2 := by unfold o_handBackC; rw [if_pos h1, if_neg h5]
      unfold f_hb at h2
      exact absurd (er_ge (Or.inr (Or.inr (Or.inl e))) h2) (by rw [e]; decide)
  · have e : (o_handBackC x σ.2.2.1 σ.2.2.2.2.1 σ.2.2.2.2.2).1 = 1 := by unfold o_handBackC; rw [if_neg h1]
    unfold f_hb at h2
    exact absurd (er_ge (Or.inr (Or.inl e)) h2) (by rw [e]; decide)
theorem rev_c (h : yJs σ) {x : Int32} (h2 : ¬ f_rev x σ < 0) : f_msg 2 x (g_rev x σ) = 0 ∧ f_msg 3 x (g_rev x σ) = nI (g_rev x σ).2.2.2.2.2 ∧ f_cnt 120 (g_rev x σ) = f_rev x σ := by
  have hJ' := J_rev h x
  have hn := J_n1 h
  by_cases h1 : inR x σ.2.2.2.2.1
  · by_cases h5 : σ.2.2.1 5 (cl x) = 120
    · have h3 := cl_lt (by omega) h1
      have e : o_revive x σ.2.2.1 σ.2.2.2.2.1 σ.2.2.2.2.2 = (0, nI (cnt (fun z => decide (wk σ.2.2.1 (cl x) (nI σ.2.2.2.2.2) 5 z = 120)) σ.2.2.2.2.1 0 0), wk σ.2.2.1 (cl x) (nI σ.2.2.2.2.2)) := by unfold o_revive; rw [if_pos h1, if_pos h5]
      have ef : f_rev x σ = nI (cnt (fun z => decide (wk σ.2.2.1 (cl x) (nI σ.2.2.2.2.2) 5 z = 120)) σ.2.2.2.2.1 0 0) := by unfold f_rev; rw [e]; exact er_0 rfl
      have eg : g_rev x σ = (σ.1, σ.2.1, wk σ.2.2.1 (cl x) (nI σ.2.2.2.2.2), σ.2.2.2.1, σ.2.2.2.2.1, σ.2.2.2.2.2) := by unfold g_rev; rw [e]
      have e5 : wk σ.2.2.1 (cl x) (nI σ.2.2.2.2.2) 5 (cl x) = 119 := by unfold wk; rw [w2_x (by omega), w2_x (by omega), w2_s]
      have e6 : wk σ.2.2.1 (cl x) (nI σ.2.2.2.2.2) 6 (cl x) = nI σ.2.2.2.2.2 := by unfold wk; rw [w2_x (by omega), w2_s]
      have e7 : wk σ.2.2.1 (cl x) (nI σ.2.2.2.2.2) 7 (cl x) = 0 := by unfold wk; rw [w2_s]
      rw [eg] at hJ' ⊢
      have m2 := msg_2 hJ' (i := cl x) h3.1
      have m3 := msg_3 hJ' (i := cl x) h3.1
      rw [h3.2] at m2 m3
      refine ⟨m2.trans e7, m3.trans ?_, ?_⟩
      · show (if wk σ.2.2.1 (cl x) (nI σ.2.2.2.2.2) 5 (cl x) = 119 then wk σ.2.2.1 (cl x) (nI σ.2.2.2.2.2) 6 (cl x) else -1002) = nI σ.2.2.2.2.2
        rw [if_pos e5, e6]
      · rw [ef, cnt_v (Or.inr (Or.inr (Or.inr (Or.inr rfl))))]
    · have e : (o_revive x σ.2.2.1 σ.2.2.2.2.1 σ.2.2.2.2.2).1 = 2 := by unfold o_revive; rw [if_pos h1, if_neg h5]
      unfold f_rev at h2
      exact absurd (er_ge (Or.inr (Or.inr (Or.inl e))) h2) (by rw [e]; decide)
  · have e : (o_revive x σ.2.2.1 σ.2.2.2.2.1 σ.2.2.2.2.2).1 = 1 := by unfold o_revive; rw [if_neg h1]
    unfold f_rev at h2
    exact absurd (er_ge (Or.inr (Or.inl e)) h2) (by rw [e]; decide)
/-! a call that tells an exception leaves the state -/
theorem k_open {x due : Int32} (hne : ¬ (o_open x due σ.1 σ.2.1 σ.2.2.1 σ.2.2.2.2.1 σ.2.2.2.2.2).1 = 0) : g_open x due σ = σ := by unfold g_open; simp only [o_open_k hne]
theorem k_pause {x dd : Int32} (hne : ¬ (o_pause x dd σ.1 σ.2.1 σ.2.2.2.2.2).1 = 0) : g_pause x dd σ = σ := by unfold g_pause; simp only [o_pause_k hne]
theorem k_await {x : Int32} (hne : ¬ (o_awaitNote x σ.1 σ.2.1).1 = 0) : g_await x σ = σ := by unfold g_await; simp only [o_awaitNote_k hne]
theorem k_post {q key kd x v dl : Int32} (hne : ¬ (o_post q key kd x v dl σ.2.1 σ.2.2.1 σ.2.2.2.2.1 σ.2.2.2.2.2).1 = 0) : g_post q key kd x v dl σ = σ := by unfold g_post; simp only [o_post_k hne]
theorem k_take {u q : Int32} (hne : ¬ (o_takeC u q σ.2.2.1 σ.2.2.2.2.1 σ.2.2.2.2.2).1 = 0) : g_take u q σ = σ := by unfold g_take; simp only [o_takeC_k hne]
theorem k_fin {x : Int32} (hne : ¬ (o_finishC x σ.1 σ.2.2.1 σ.2.2.2.1 σ.2.2.2.2.1).1 = 0) : g_fin x σ = σ := by unfold g_fin; simp only [o_finishC_k hne]
theorem k_hb {x : Int32} (hne : ¬ (o_handBackC x σ.2.2.1 σ.2.2.2.2.1 σ.2.2.2.2.2).1 = 0) : g_hb x σ = σ := by unfold g_hb; simp only [o_handBackC_k hne]
theorem k_rev {x : Int32} (hne : ¬ (o_revive x σ.2.2.1 σ.2.2.2.2.1 σ.2.2.2.2.2).1 = 0) : g_rev x σ = σ := by unfold g_rev; simp only [o_revive_k hne]
theorem k_pass {dd : Int32} (hne : ¬ (o_passC dd σ.1 σ.2.1 σ.2.2.1 σ.2.2.2.2.1 σ.2.2.2.2.2).1 = 0) : g_pass dd σ = σ := by unfold g_pass; simp only [o_passC_k hne]
theorem z_ge : (0 : Int32) ≤ 0 := by decide
theorem lt_open (h : yJs σ) {x due : Int32} (h2 : f_open x due σ < -1000) : g_open x due σ = σ := by
  have hn := J_n0 h
  refine k_open (er_lt (fun _ => ?_) h2)
  unfold o_open
  repeat' split
  all_goals first | exact z_ge | exact nI_ge0 (by omega)
theorem lt_pause (h : yJs σ) {x dd : Int32} (h2 : f_pause x dd σ < -1000) : g_pause x dd σ = σ := by
  have hd := J_d h
  refine k_pause (er_lt (fun _ => ?_) h2)
  unfold o_pause
  by_cases h1 : inR x σ.2.1
  · rw [if_pos h1]
    by_cases h3 : rg 1 60 dd
    · rw [if_pos h3]
      split
      · exact z_ge
      · obtain ⟨y, hy, e⟩ := rg_nI (n := 60) (Int32.le_trans (by decide) h3.1) rfl h3.2
        show 0 ≤ mx (σ.1 3 (cl x)) (nI σ.2.2.2.2.2 + dd)
        rw [e, nI_add, Int32.le_iff_toInt_le, mx_toInt, nI_toInt (by omega), show (0 : Int32).toInt = 0 from rfl]
        omega
    · rw [if_neg h3]; exact z_ge
  · rw [if_neg h1]; exact z_ge
theorem ite_ge {p : Prop} [Decidable p] : (0 : Int32) ≤ if p then 0 else 1 := by split <;> decide
theorem lt_await {x : Int32} (h2 : f_await x σ < -1000) : g_await x σ = σ := k_await (er_lt (fun _ => ite_ge) h2)
theorem lt_fin {x : Int32} (h2 : f_fin x σ < -1000) : g_fin x σ = σ := k_fin (er_lt (fun _ => ite_ge) h2)
theorem lt_post (h : yJs σ) {q key kd x v dl : Int32} (h2 : f_post q key kd x v dl σ < -1000) : g_post q key kd x v dl σ = σ := by
  have hn := J_n1 h
  refine k_post (er_lt (fun _ => ?_) h2)
  unfold o_post
  by_cases h1 : okp q key kd x v dl
  · rw [if_pos h1]
    cases hf : fnd (σ.2.2.1 1) key σ.2.2.2.2.1 0 with
    | none =>
      rw [if_pos rfl]
      split
      · exact z_ge
      · exact nI_ge0 (by omega)
    | some j =>
      have := fnd_lt hf
      rw [if_neg (fun h9 => nomatch h9)]
      exact nI_ge0 (by omega)
  · rw [if_neg h1]; exact z_ge
theorem lt_take (h : yJs σ) {u q : Int32} (h2 : f_take u q σ < -1000) : g_take u q σ = σ := by
  have hn := J_n1 h
  refine k_take (er_lt (fun _ => ?_) h2)
  unfold o_takeC
  by_cases h1 : rg 0 3 u
  · rw [if_pos h1]
    by_cases h3 : rg 0 2 q
    · rw [if_pos h3]
      split
      · exact z_ge
      · have hm := nxt_0 (M := σ.2.2.1) (q := q) (t := nI σ.2.2.2.2.2) (pv := none) (n := σ.2.2.2.2.1)
        cases hx : nxt σ.2.2.1 q (nI σ.2.2.2.2.2) none σ.2.2.2.2.1 0 none with
        | none => exact z_ge
        | some j =>
          rw [hx] at hm
          have hj : j < σ.2.2.2.2.1 := hm.1
          exact nI_ge0 (by omega)
    · rw [if_neg h3]; exact z_ge
  · rw [if_neg h1]; exact z_ge
theorem lt_hb (h : yJs σ) {x : Int32} (h2 : f_hb x σ < -1000) : g_hb x σ = σ := by
  have hn := J_n1 h
  refine k_hb (er_lt (fun _ => ?_) h2)
  unfold o_handBackC
  by_cases h1 : inR x σ.2.2.2.2.1
  · rw [if_pos h1]
    by_cases h5 : σ.2.2.1 5 (cl x) = 116
    · rw [if_pos h5]
      rcases (J_m h (cl_lt (by omega) h1).1).2.2.2.2.1 (by rw [h5]; decide) with e | e | e <;> (show 0 ≤ σ.2.2.1 7 (cl x) + 1; rw [e]; decide)
    · rw [if_neg h5]; exact z_ge
  · rw [if_neg h1]; exact z_ge
theorem lt_rev (h : yJs σ) {x : Int32} (h2 : f_rev x σ < -1000) : g_rev x σ = σ := by
  have hn := J_n1 h
  refine k_rev (er_lt (fun _ => ?_) h2)
  unfold o_revive
  repeat' split
  all_goals first | exact z_ge | exact nI_ge0 (Nat.lt_of_le_of_lt (cnt_le _ _ _ _) (by omega))
end
