section
variable {C : Nat → Nat → Int32} {n0 : Nat} {M : Nat → Nat → Int32} {ds n1 d : Nat}
theorem lst_at {cs : Int32} {i : Nat} {v : Int32 × Nat} (hn : n1 ≤ 80) (hi : i < n1) : lst M cs n1 (nI i) v = if M 3 i = cs then (if M 2 i = 112 then (mx 0 (v.1 - M 4 i), v.2) else if M 2 i = 114 ∧ 0 < v.1 ∧ M 4 i = nI v.2 then (v.1, v.2 + 1) else v) else v := by
  have e : (nI i).toNatClampNeg = i := nI_clamp (by omega)
  have i1 : inR (nI i) n1 := ⟨Int32.not_lt.mpr (nI_ge0 (by omega)), (yn_lt (by omega) (by omega)).mpr hi⟩
  unfold lst
  have hc : (inR (nI i) n1 ∧ M 3 i = cs) = (M 3 i = cs) := propext ⟨fun h => h.2, fun h => ⟨i1, h⟩⟩
  simp only [e, hc]
theorem mx0_ge {x : Int32} : 0 ≤ mx 0 x := by
  rw [Int32.le_iff_toInt_le, mx_toInt]; omega
/-- a finished message, all but the case it changes -/
theorem yI_fin0 (h : yI C n0 M ds n1 d) {i c : Nat} (hi : i < n1) (h5 : M 5 i = 116) (hc : c < n0) (h3 : M 3 i = nI c) {C' : Nat → Nat → Int32} (c0 : ∀ z, z < n0 → 0 ≤ C' 0 z) (c4 : ∀ z, C' 4 z = 0 ∨ C' 4 z = 1) (c2 : ∀ z, n0 ≤ z → C' 2 z = 0)
    (cf : ∀ j k, j < n0 → k ≤ ds → nI k = C 2 j → ∃ k', k' ≤ ds + 1 ∧ (if nI c = nI j then (if M 2 i = 112 then (mx 0 (C 0 j - M 4 i), k) else if M 2 i = 114 ∧ 0 < C 0 j ∧ M 4 i = nI k then (C 0 j, k + 1) else (C 0 j, k)) else (C 0 j, k)) = (C' 0 j, k') ∧ nI k' = C' 2 j) (c5 : C' 5 = C 5) :
    yI C' n0 (w2 (w2 M 5 i 100) 10 ds (nI i)) (ds + 1) n1 d := by
  have hI := h
  obtain ⟨a1, a2, a3, a4, a5, a6, a7, a8, a9, a10, a11, a12⟩ := h
  have ho : ∀ a z, z ≠ i → w2 M 5 i 100 a z = M a z := fun a z hz => w2_o a z hz
  have e5 : w2 M 5 i 100 5 i = 100 := w2_s
  have hk := a7 i hi
  refine ⟨a1, a2, a3, c0, c4, c2, fun z hz => ?_, a8, tk_no (M' := w2 M 5 i 100) (i := i) a9 ho (by rw [e5]; decide), ?_, fun p hp => ?_, fun j hj => ?_⟩
  · refine okm_cg (M := w2 M 5 i 100) (fun a _ h10 => by rw [w2_n h10]) ?_
    by_cases hz2 : z = i
    · rw [hz2]
      exact ⟨Or.inr (Or.inr (Or.inr (Or.inl e5))), hk.2.1, hk.2.2.1, fun _ => ⟨c, hc, h3⟩, fun _ => hk.2.2.2.2.1 (by rw [h5]; decide), fun h9 => by rw [e5] at h9; exact absurd h9 (by decide)⟩
    · exact okm_cg (fun a _ _ => ho a z hz2) (a7 z hz)
  · have h1 := cnt_add (p := fun z => decide (w2 (w2 M 5 i 100) 10 ds (nI i) 5 z = 100)) (q := fun z => decide (M 5 z = 100)) (s := fun z => decide (z = i)) (fun z => bool3 (by
      show w2 M 5 i 100 5 z = 100 ↔ _
      by_cases hz : z = i
      · rw [hz]; exact ⟨fun _ => Or.inr rfl, fun _ => e5⟩
      · rw [ho 5 z hz]; exact ⟨Or.inl, fun h => h.elim id (fun h => absurd h hz)⟩) (fun h9 => by
      have h10 := h9.1
      rw [h9.2, h5] at h10
      exact absurd h10 (by decide))) n1 0
    rw [cnt_one (Nat.zero_le _) (by omega)] at h1
    rw [h1, ← a10]
  · by_cases hp2 : p = ds
    · refine ⟨i, hi, by rw [hp2, w2_s], e5⟩
    · obtain ⟨q, g1, g2, g3⟩ := a11 p (by omega)
      refine ⟨q, g1, by rw [w2_x (fun h9 => hp2 h9.2)]; exact g2, ?_⟩
      show w2 M 5 i 100 5 q = 100
      rw [ho 5 q (fun h9 => by rw [h9, h5] at g3; exact absurd g3 (by decide))]
      exact g3
  · obtain ⟨k, g1, g2, g3⟩ := a12 j hj
    obtain ⟨k', q1, q2, q3⟩ := cf j k hj g1 g3
    refine ⟨k', q1, ?_, q3⟩
    rw [lfr_top, Nat.zero_add, w2_s, c5, lfr_cg (M := M) (n := n1) (fun z _ hz v => ?_), g2, lst_cg (M' := w2 (w2 M 5 i 100) 10 ds (nI i)) (M := M) (n := n1) (Nat.le_refl _) a2 hi rfl rfl rfl, lst_at a2 hi, h3]
    · exact q2
    · obtain ⟨q, p1, p2, p3⟩ := a11 z (by omega)
      rw [w2_x (fun h9 => by omega), show w2 M 5 i 100 10 z = M 10 z from rfl, p2]
      exact lst_cg (Nat.le_refl _) a2 p1 rfl rfl rfl
theorem yI_fin (h : yI C n0 M ds n1 d) {i c : Nat} (hi : i < n1) (h5 : M 5 i = 116) (hc : c < n0) (h3 : M 3 i = nI c) : yI (fin3C i c C M).2 n0 (w2 (w2 M 5 i 100) 10 ds (nI i)) (ds + 1) n1 d := by
  have hI := h
  have h8 := yI_ds h
  obtain ⟨a1, a2, a3, a4, a5, a6, a7, a8, a9, a10, a11, a12⟩ := h
  have hne : ∀ j, j < n0 → j ≠ c → nI c ≠ nI j := fun j hj h1 h2 => h1 (nI_inj (by omega) (by omega) h2).symm
  unfold fin3C
  by_cases hp : M 2 i = 112
  · rw [if_pos hp]
    show yI (w2 C 0 c (mx 0 (C 0 c - M 4 i))) n0 _ _ _ _
    refine yI_fin0 hI hi h5 hc h3 (fun z hz => ?_) a5 a6 (fun j k hj hk e => ⟨k, by omega, ?_, e⟩) rfl
    · by_cases hz2 : z = c
      · rw [hz2, w2_s]; exact mx0_ge
      · rw [w2_o 0 z hz2]; exact a4 z hz
    · by_cases hj2 : j = c
      · rw [if_pos (by rw [hj2]), if_pos hp, hj2, w2_s]
      · rw [if_neg (hne j hj hj2), w2_o 0 j hj2]
  · rw [if_neg hp]
    by_cases hn : M 2 i = 110
    · rw [if_pos hn]
      show yI (w2 C 4 c 0) n0 _ _ _ _
      refine yI_fin0 hI hi h5 hc h3 a4 (fun z => ?_) a6 (fun j k hj hk e => ⟨k, by omega, ?_, e⟩) rfl
      · by_cases hz2 : z = c
        · rw [hz2, w2_s]; exact Or.inl rfl
        · rw [w2_o 4 z hz2]; exact a5 z
      · have h6 : (if M 2 i = 112 then (mx 0 (C 0 j - M 4 i), k) else if M 2 i = 114 ∧ 0 < C 0 j ∧ M 4 i = nI k then (C 0 j, k + 1) else (C 0 j, k)) = (C 0 j, k) := by
          rw [if_neg hp]
          exact if_neg (fun h9 => by rw [hn] at h9; exact absurd h9.1 (by decide))
        rw [h6]
        show (if nI c = nI j then (C 0 j, k) else (C 0 j, k)) = (C 0 j, k)
        split <;> rfl
    · rw [if_neg hn]
      show yI (if 0 < C 0 c ∧ C 2 c = M 4 i then w2 C 2 c (C 2 c + 1) else C) n0 _ _ _ _
      have hr : M 2 i = 114 := ((a7 i hi).2.1.resolve_left hp).resolve_left hn
      by_cases hx : 0 < C 0 c ∧ C 2 c = M 4 i
      · rw [if_pos hx]
        refine yI_fin0 hI hi h5 hc h3 a4 a5 (fun z hz => by rw [w2_o 2 z (by omega)]; exact a6 z hz) (fun j k hj hk e => ?_) rfl
        by_cases hj2 : j = c
        · subst hj2
          refine ⟨k + 1, by omega, ?_, ?_⟩
          · rw [if_pos rfl, if_neg hp, if_pos ⟨hr, hx.1, by rw [e]; exact hx.2.symm⟩]; rfl
          · rw [w2_s, nI_s1 (by omega), e]
        · refine ⟨k, by omega, ?_, by rw [w2_o 2 j hj2]; exact e⟩
          rw [if_neg (hne j hj hj2)]; rfl
      · rw [if_neg hx]
        refine yI_fin0 hI hi h5 hc h3 a4 a5 a6 (fun j k hj hk e => ⟨k, by omega, ?_, e⟩) rfl
        by_cases hj2 : j = c
        · subst hj2
          rw [if_pos rfl, if_neg hp, if_neg (fun h9 => hx ⟨h9.2.1, by rw [← e]; exact h9.2.2.symm⟩)]
        · rw [if_neg (hne j hj hj2)]
end
/-! class and check together -/
def yY (C : Nat → Nat → Int32) (n0 : Nat) (M : Nat → Nat → Int32) (ds n1 d : Nat) (R : Nat → Nat → Int32) : Prop := yI C n0 M ds n1 d ∧ yRel M R
section
variable {C : Nat → Nat → Int32} {n0 : Nat} {M R : Nat → Nat → Int32} {ds n1 d : Nat}
theorem yY_0 : yY (fun _ _ => 0) 0 (fun _ _ => 0) 0 0 0 (fun _ _ => 0) :=
  ⟨⟨by omega, by omega, by omega, fun z hz => absurd hz (Nat.not_lt_zero z), fun _ => Or.inl rfl, fun _ _ => rfl, fun z hz => absurd hz (Nat.not_lt_zero z), fun _ _ => rfl, fun _ => Nat.zero_le _, rfl, fun z hz => absurd hz (Nat.not_lt_zero z), fun z hz => absurd hz (Nat.not_lt_zero z)⟩, ⟨rfl, rfl, rfl, rfl, rfl, rfl, rfl, rfl, rfl, fun _ _ => rfl⟩⟩
theorem yY_open (h : yY C n0 M ds n1 d R) (x due : Int32) : yY (o_open x due C n0 M n1 d).2.2.1 (o_open x due C n0 M n1 d).2.2.2.2 (o_open x due C n0 M n1 d).2.2.2.1 ds n1 d (o_open x due C n0 R n1 d).2.2.2.1 := by
  refine ⟨?_, (rel_open h.2).2.2.2.2⟩
  have hI := h.1
  unfold o_open
  by_cases h1 : rg 1 9999 x
  · rw [if_pos h1]
    by_cases h2 : rg 0 999 due
    · rw [if_pos h2]
      by_cases h3 : n0 = 8
      · rw [if_pos h3]; exact hI
      · rw [if_neg h3]
        have h4 := hI.1
        exact yI_rel (m := n0) (Nat.lt_succ_self _) (yI_open hI (Int32.le_trans (by decide) h1.1) (by omega)) (by omega)
    · rw [if_neg h2]; exact hI
  · rw [if_neg h1]; exact hI
theorem yY_pause (h : yY C n0 M ds n1 d R) (x dd : Int32) : yY (o_pause x dd C n0 d).2.2 n0 M ds n1 d R := by
  refine ⟨?_, h.2⟩
  have hI := h.1
  unfold o_pause
  repeat' split
  all_goals first | exact hI | exact yI_C hI rfl rfl rfl hI.2.2.2.2.1
theorem yY_awaitNote (h : yY C n0 M ds n1 d R) (x : Int32) : yY (o_awaitNote x C n0).2.2 n0 M ds n1 d R := by
  refine ⟨?_, h.2⟩
  have hI := h.1
  unfold o_awaitNote
  repeat' split
  all_goals first | exact hI | skip
  show yI (w2 C 4 (cl x) 1) n0 M ds n1 d
  refine yI_C hI rfl rfl rfl (fun z => ?_)
  by_cases hz : z = cl x
  · rw [hz, w2_s]; exact Or.inr rfl
  · rw [w2_o 4 z hz]; exact hI.2.2.2.2.1 z
theorem yY_post (h : yY C n0 M ds n1 d R) (q key kd x v dl : Int32) : yY C n0 (o_post q key kd x v dl n0 M n1 d).2.2.1 ds (o_post q key kd x v dl n0 M n1 d).2.2.2 d (o_post q key kd x v dl n0 R n1 d).2.2.1 := by
  refine ⟨?_, (rel_post h.2).2.2.2⟩
  have hI := h.1
  unfold o_post
  by_cases h1 : okp q key kd x v dl
  · rw [if_pos h1]
    by_cases h2 : fnd (M 1) key n1 0 = none
    · rw [if_pos h2]
      by_cases h3 : n1 = 80
      · rw [if_pos h3]; exact hI
      · rw [if_neg h3]
        have h4 := hI.2.1
        have h5 := hI.1
        refine yI_add hI (by omega) (by split <;> simp) (h1.2.2.1.elim Or.inl (fun h9 => Or.inr (Or.inl h9))) h1.2.2.2.2.1.1 (fun h9 => ?_)
        by_cases h6 : x < nI n0
        · have h7 := cl_lt (n := n0) (by omega) ⟨Int32.not_lt.mpr h1.2.2.2.1.1, h6⟩
          exact ⟨cl x, h7.1, h7.2.symm⟩
        · rw [if_neg h6] at h9; exact absurd h9 (by decide)
    · rw [if_neg h2]; exact hI
  · rw [if_neg h1]; exact hI
theorem yY_take (h : yY C n0 M ds n1 d R) (u q : Int32) : yY C n0 (o_takeC u q M n1 d).2.2 ds n1 d (o_take u q R n1 d).2.2 := by
  refine ⟨?_, (rel_take h.2 h.1.2.1 (yI_tk h.1 u)).2.2⟩
  have hI := h.1
  unfold o_takeC
  by_cases h1 : rg 0 3 u
  · rw [if_pos h1]
    by_cases h2 : rg 0 2 q
    · rw [if_pos h2]
      by_cases h3 : 2 ≤ cnt (fun z => decide (tkn M u z)) n1 0 0
      · rw [if_pos h3]; exact hI
      · rw [if_neg h3]
        have hm := nxt_0 (M := M) (q := q) (t := nI d) (pv := none) (n := n1)
        cases hx : nxt M q (nI d) none n1 0 none with
        | none => exact hI
        | some j =>
          rw [hx] at hm
          exact yI_tk3 hI hm.1 hm.2.1.1.2.1 (by omega)
    · rw [if_neg h2]; exact hI
  · rw [if_neg h1]; exact hI
theorem yY_cs (h : yY C n0 M ds n1 d R) : ∀ z, z < n1 → M 5 z = 116 → ∃ q, q < n0 ∧ M 3 z = nI q := fun z hz h5 => (yI_ok h.1 z hz).2.2.2.1 (by rw [h5]; decide)
theorem yY_finish (h : yY C n0 M ds n1 d R) (x : Int32) : yY (o_finishC x C M ds n1).2.2.1 n0 (o_finishC x C M ds n1).2.2.2.1 (o_finishC x C M ds n1).2.2.2.2 n1 d (o_finish x C R n1).2.2.2 := by
  refine ⟨?_, (rel_finish h.2 h.1.1 h.1.2.1 h.1.2.2.2.1 (fun z hz => (yI_ok h.1 z hz).2.2.1) (yY_cs h)).2.2.2⟩
  have hI := h.1
  unfold o_finishC
  by_cases h1 : inR x n1
  · rw [if_pos h1]
    by_cases h2 : M 5 (cl x) = 116
    · rw [if_pos h2]
      have h0 := hI.1
      have h9 := hI.2.1
      have h3 := cl_lt (by omega) h1
      obtain ⟨q, hq, hm⟩ := yY_cs h _ h3.1 h2
      have h6 : cl (M 3 (cl x)) = q := by rw [hm]; exact nI_clamp (by omega)
      have h7 := yI_fin hI h3.1 h2 hq hm
      rw [h3.2] at h7
      rw [h6]
      exact h7
    · rw [if_neg h2]; exact hI
  · rw [if_neg h1]; exact hI
theorem yY_handBack (h : yY C n0 M ds n1 d R) (x : Int32) : yY C n0 (o_handBackC x M n1 d).2.2 ds n1 d (o_handBack x R n1 d).2.2 := by
  refine ⟨?_, (rel_handBack h.2 h.1.2.1 (fun z hz => (yI_ok h.1 z hz).2.2.2.2.1)).2.2⟩
  have hI := h.1
  unfold o_handBackC
  by_cases h1 : inR x n1
  · rw [if_pos h1]
    by_cases h2 : M 5 (cl x) = 116
    · rw [if_pos h2]
      have h9 := hI.2.1
      exact yI_pb hI (cl_lt (by omega) h1).1 h2
    · rw [if_neg h2]; exact hI
  · rw [if_neg h1]; exact hI
theorem yY_revive (h : yY C n0 M ds n1 d R) (x : Int32) : yY C n0 (o_revive x M n1 d).2.2 ds n1 d (o_revive x R n1 d).2.2 := by
  refine ⟨?_, (rel_revive h.2).2.2⟩
  have hI := h.1
  unfold o_revive
  by_cases h1 : inR x n1
  · rw [if_pos h1]
    by_cases h2 : M 5 (cl x) = 120
    · rw [if_pos h2]
      have h9 := hI.2.1
      exact yI_wk hI (cl_lt (by omega) h1).1 h2
    · rw [if_neg h2]; exact hI
  · rw [if_neg h1]; exact hI
theorem yY_pass (h : yY C n0 M ds n1 d R) (dd : Int32) : (o_pass dd C n0 R n1 d).1 = (o_passC dd C n0 M n1 d).1 ∧ (o_pass dd C n0 R n1 d).2.1.1 = (o_passC dd C n0 M n1 d).2.1.1 ∧ (o_pass dd C n0 R n1 d).2.1.2.2 = (o_passC dd C n0 M n1 d).2.1.2.2 ∧ (o_pass dd C n0 R n1 d).2.2 = (o_passC dd C n0 M n1 d).2.2 ∧ yY C n0 (o_passC dd C n0 M n1 d).2.1.2.1 ds (o_passC dd C n0 M n1 d).2.1.2.2 (o_passC dd C n0 M n1 d).2.2 (o_pass dd C n0 R n1 d).2.1.2.1 := by
  have hI := h.1
  unfold o_pass o_passC
  by_cases h1 : rg 1 30 dd
  · rw [if_pos h1, if_pos h1]
    by_cases h2 : 999 < nI d + dd
    · rw [if_pos h2, if_pos h2]; exact ⟨rfl, rfl, rfl, rfl, h⟩
    · rw [if_neg h2, if_neg h2]
      have h0 : ¬ dd < 0 := Int32.not_lt.mpr (Int32.le_trans (by decide) h1.1)
      have h3 := cl_of h0
      have h4 : cl dd ≤ 30 := by
        have h5 := Int32.le_iff_toInt_le.mp h1.2
        rw [show (30 : Int32).toInt = 30 from rfl] at h5
        have h6 : cl dd = dd.toInt.toNat := rfl
        omega
      have hd := hI.2.2.1
      have h7 : d + cl dd ≤ 999 := by
        have h8 := Int32.not_lt.mp h2
        rw [Int32.le_iff_toInt_le, Int32.toInt_add, nI_toInt (by omega), ← h3, nI_toInt (by omega), show (999 : Int32).toInt = 999 from rfl, Int.bmod_def] at h8
        split at h8 <;> omega
      obtain ⟨e1, e2, e3, e4⟩ := yI_pds (r := cl dd) (d := d) (p := 0) (n1 := n1) hI h.2 h7
      exact ⟨rfl, e1, e2, rfl, e4, e3⟩
  · rw [if_neg h1, if_neg h1]; exact ⟨rfl, rfl, rfl, rfl, h⟩
/-- the letters counted from the messages are the letters counted -/
theorem yY_lbm (h : yY C n0 M ds n1 d R) (x : Int32) : o_letters x C n0 = o_lbm x C n0 M ds n1 := by
  unfold o_letters o_lbm
  by_cases h1 : inR x n0
  · rw [if_pos h1, if_pos h1]
    have h0 := h.1.1
    have h2 := cl_lt (by omega) h1
    obtain ⟨k, _, g2, g3⟩ := h.1.2.2.2.2.2.2.2.2.2.2.2 _ h2.1
    rw [h2.2] at g2
    rw [g2, ← g3]
  · rw [if_neg h1, if_neg h1]
end
