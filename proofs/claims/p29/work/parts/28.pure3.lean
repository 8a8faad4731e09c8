theorem w2_s {M : Nat → Nat → Int32} {k i : Nat} {x : Int32} : w2 M k i x k i = x := by rw [w2_ap, if_pos ⟨rfl, rfl⟩]
theorem w2_x {M : Nat → Nat → Int32} {k i a z : Nat} {x : Int32} (h : ¬ (a = k ∧ z = i)) : w2 M k i x a z = M a z := by rw [w2_ap, if_neg h]
section
variable {M R : Nat → Nat → Int32}
theorem rel_56 (h : yRel M R) {i : Nat} {x t : Int32} : yRel (w2 (w2 M 5 i x) 6 i t) (w2 (w2 R 5 i x) 6 i t) := by
  refine ⟨?_, ?_, ?_, ?_, ?_, ?_, ?_, ?_, ?_, fun z hz => ?_⟩
  all_goals first | (funext z; rw [w2_ap, w2_ap, w2_ap, w2_ap]; first | rw [h.e0] | rw [h.e1] | rw [h.e2] | rw [h.e3] | rw [h.e4] | rw [h.e5] | rw [h.e7] | rw [h.e8] | rw [h.e9]) | skip
  by_cases h1 : z = i
  · rw [h1, w2_s, w2_s]
  · have h2 : ∀ a b : Nat, ¬ (a = b ∧ z = i) := fun _ _ h9 => h1 h9.2
    rw [w2_x (h2 _ _), w2_x (h2 _ _)] at hz
    rw [w2_x (h2 _ _), w2_x (h2 _ _), w2_x (h2 _ _), w2_x (h2 _ _)]
    exact h.e6 z hz
theorem rel_r6 (h : yRel M R) {i : Nat} {x : Int32} (h5 : M 5 i = 120) : yRel M (w2 R 6 i x) := by
  refine ⟨?_, ?_, ?_, ?_, ?_, ?_, ?_, ?_, ?_, fun z hz => ?_⟩
  all_goals first | (rw [w2_n (by decide)]; first | exact h.e0 | exact h.e1 | exact h.e2 | exact h.e3 | exact h.e4 | exact h.e5 | exact h.e7 | exact h.e8 | exact h.e9) | skip
  rw [w2_ap, if_neg (fun h9 => hz (by rw [h9.2]; exact h5))]
  exact h.e6 z hz
theorem rel_l10 (h : yRel M R) {i : Nat} {x : Int32} : yRel (w2 M 10 i x) R := by
  refine ⟨?_, ?_, ?_, ?_, ?_, ?_, ?_, ?_, ?_, fun z hz => ?_⟩
  all_goals first | (rw [w2_n (by decide)]; first | exact h.e0 | exact h.e1 | exact h.e2 | exact h.e3 | exact h.e4 | exact h.e5 | exact h.e7 | exact h.e8 | exact h.e9) | skip
  rw [w2_n (by decide)] at hz ⊢
  exact h.e6 z hz
theorem rel_mad (h : yRel M R) {n : Nat} {q key kd cs ct t st : Int32} : yRel (mad2 M n q key kd cs ct t st) (mad2 R n q key kd cs ct t st) := by
  unfold mad2
  have h1 := rel_w2 h (k := 0) (i := n) (x := q) (by decide) (fun h => nomatch h)
  have h2 := rel_w2 h1 (k := 1) (i := n) (x := key) (by decide) (fun h => nomatch h)
  have h3 := rel_w2 h2 (k := 2) (i := n) (x := kd) (by decide) (fun h => nomatch h)
  have h4 := rel_w2 h3 (k := 3) (i := n) (x := cs) (by decide) (fun h => nomatch h)
  have h5 := rel_w2 h4 (k := 4) (i := n) (x := ct) (by decide) (fun h => nomatch h)
  refine rel_w2 (rel_w6 h5) (by decide) (fun _ _ => ?_)
  rw [w2_s, w2_s]
theorem rel_rst (h : yRel M R) {cs t : Int32} {i : Nat} : yRel (rst cs t i M) (rst cs t i R) := by
  unfold rst
  rw [h.e5, h.e3]
  by_cases h1 : M 5 i = 104 ∧ M 3 i = cs
  · rw [if_pos h1, if_pos h1, h.e6 i (by rw [h1.1]; decide)]
    exact rel_56 h
  · rw [if_neg h1, if_neg h1]; exact h
theorem rel_rel {cs t : Int32} : ∀ {r i : Nat} {M R : Nat → Nat → Int32}, yRel M R → yRel (rel cs t r i M) (rel cs t r i R)
  | 0, _, _, _, h => h
  | r + 1, i, _, _, h => rel_rel (r := r) (i := i + 1) (rel_rst h)
theorem pb_bk (h : yRel M R) {i : Nat} {t : Int32} (h5 : M 5 i ≠ 120) (h7 : M 7 i = 0 ∨ M 7 i = 1 ∨ M 7 i = 2) : yRel (pb M i t) (bk R i t) := by
  unfold pb bk
  rw [h.e7]
  have h1 := rel_w2 h (k := 7) (i := i) (x := M 7 i + 1) (by decide) (fun h => nomatch h)
  have h9 : w2 M 7 i (M 7 i + 1) 5 i ≠ 120 := by rw [w2_n (by decide)]; exact h5
  by_cases h3 : M 7 i + 1 < 3
  · rw [if_pos h3, if_neg (by rcases h7 with h7 | h7 | h7 <;> rw [h7] at h3 ⊢ <;> revert h3 <;> decide)]
    exact rel_w6 (rel_w2 h1 (by decide) (fun _ h8 => absurd h8 h9))
  · rw [if_neg h3, if_pos (by rcases h7 with h7 | h7 | h7 <;> rw [h7] at h3 ⊢ <;> revert h3 <;> decide)]
    refine rel_r6 (rel_w2 h1 (by decide) (fun _ h8 => absurd h8 h9)) ?_
    rw [w2_ap, if_pos ⟨rfl, rfl⟩]
theorem rel_wk (h : yRel M R) {i : Nat} {t : Int32} : yRel (wk M i t) (wk R i t) := rel_w2 (k := 7) (rel_56 h) (by decide) (fun h => nomatch h)
theorem rel_tk3 (h : yRel M R) {u : Int32} {d : Nat} {o : Option Nat} (ho : ∀ j, o = some j → M 5 j ≠ 120) : (tk3 R u d o).1 = (tk3 M u d o).1 ∧ (tk3 R u d o).2.1 = (tk3 M u d o).2.1 ∧ yRel (tk3 M u d o).2.2 (tk3 R u d o).2.2 := by
  cases o with
  | none => exact ⟨rfl, rfl, h⟩
  | some j =>
    refine ⟨rfl, rfl, ?_⟩
    have h1 := rel_w2 h (k := 5) (i := j) (x := 116) (by decide) (fun _ h8 => absurd h8 (ho j rfl))
    have h2 := rel_w2 h1 (k := 8) (i := j) (x := u) (by decide) (fun h => nomatch h)
    exact rel_w2 h2 (k := 9) (i := j) (x := nI d) (by decide) (fun h => nomatch h)
theorem toI_sub {a b : Int32} (ha : 0 ≤ a) (hb : 0 ≤ b) : (a - b).toInt = a.toInt - b.toInt := by
  have h0 : (0 : Int32).toInt = 0 := rfl
  rw [Int32.le_iff_toInt_le, h0] at ha hb
  have h1 := Int32.toInt_lt a
  have h2 := Int32.toInt_lt b
  rw [Int32.toInt_sub, Int.bmod_def]
  split <;> omega
theorem fin_C (h : yRel M R) {i c : Nat} {C : Nat → Nat → Int32} (hc : 0 ≤ C 0 c) (h4 : 0 ≤ M 4 i) : fin3C i c C M = fin3 i c C R := by
  unfold fin3C fin3
  rw [h.e2, h.e4]
  by_cases h1 : M 2 i = 112
  · rw [if_pos h1, if_pos h1]
    have h2 : (mx 0 (C 0 c - M 4 i) ≠ C 0 c) = (0 < C 0 c ∧ 0 < M 4 i) := propext (by
      have h3 := toI_sub hc h4
      have h0 : (0 : Int32).toInt = 0 := rfl
      rw [Int32.le_iff_toInt_le, h0] at hc h4
      rw [Int32.lt_iff_toInt_lt, Int32.lt_iff_toInt_lt, h0, ne_eq, ← Int32.toInt_inj, mx_toInt, h3, h0]
      omega)
    simp only [h2]
  · rw [if_neg h1, if_neg h1]
theorem rel_open (h : yRel M R) {x due : Int32} {C : Nat → Nat → Int32} {n0 n1 d : Nat} : (o_open x due C n0 R n1 d).1 = (o_open x due C n0 M n1 d).1 ∧ (o_open x due C n0 R n1 d).2.1 = (o_open x due C n0 M n1 d).2.1 ∧ (o_open x due C n0 R n1 d).2.2.1 = (o_open x due C n0 M n1 d).2.2.1 ∧ (o_open x due C n0 R n1 d).2.2.2.2 = (o_open x due C n0 M n1 d).2.2.2.2 ∧ yRel (o_open x due C n0 M n1 d).2.2.2.1 (o_open x due C n0 R n1 d).2.2.2.1 := by
  unfold o_open
  by_cases h1 : rg 1 9999 x
  · rw [if_pos h1, if_pos h1]
    by_cases h2 : rg 0 999 due
    · rw [if_pos h2, if_pos h2]
      by_cases h3 : n0 = 8
      · rw [if_pos h3, if_pos h3]; exact ⟨rfl, rfl, rfl, rfl, h⟩
      · rw [if_neg h3, if_neg h3]; exact ⟨rfl, rfl, rfl, rfl, rel_rel h⟩
    · rw [if_neg h2, if_neg h2]; exact ⟨rfl, rfl, rfl, rfl, h⟩
  · rw [if_neg h1, if_neg h1]; exact ⟨rfl, rfl, rfl, rfl, h⟩
theorem rel_post (h : yRel M R) {q key kd x v dl : Int32} {n0 n1 d : Nat} : (o_post q key kd x v dl n0 R n1 d).1 = (o_post q key kd x v dl n0 M n1 d).1 ∧ (o_post q key kd x v dl n0 R n1 d).2.1 = (o_post q key kd x v dl n0 M n1 d).2.1 ∧ (o_post q key kd x v dl n0 R n1 d).2.2.2 = (o_post q key kd x v dl n0 M n1 d).2.2.2 ∧ yRel (o_post q key kd x v dl n0 M n1 d).2.2.1 (o_post q key kd x v dl n0 R n1 d).2.2.1 := by
  unfold o_post
  rw [h.e1]
  by_cases h1 : okp q key kd x v dl
  · rw [if_pos h1, if_pos h1]
    by_cases h2 : fnd (M 1) key n1 0 = none
    · rw [if_pos h2, if_pos h2]
      by_cases h3 : n1 = 80
      · rw [if_pos h3, if_pos h3]; exact ⟨rfl, rfl, rfl, h⟩
      · rw [if_neg h3, if_neg h3]; exact ⟨rfl, rfl, rfl, rel_mad h⟩
    · rw [if_neg h2, if_neg h2]; exact ⟨rfl, rfl, rfl, h⟩
  · rw [if_neg h1, if_neg h1]; exact ⟨rfl, rfl, rfl, h⟩
theorem rel_take (h : yRel M R) {u q : Int32} {n1 d : Nat} (hn : n1 ≤ 80) (htk : cnt (fun z => decide (tkn M u z)) n1 0 0 ≤ 2) : (o_take u q R n1 d).1 = (o_takeC u q M n1 d).1 ∧ (o_take u q R n1 d).2.1 = (o_takeC u q M n1 d).2.1 ∧ yRel (o_takeC u q M n1 d).2.2 (o_take u q R n1 d).2.2 := by
  rw [take_C hn htk]
  unfold o_take
  rw [rel_plc h]
  have h0 : cnt (fun z => decide (tkn R u z)) n1 0 0 = cnt (fun z => decide (tkn M u z)) n1 0 0 := by unfold tkn; rw [h.e5, h.e8]
  rw [h0]
  by_cases h1 : rg 0 3 u
  · rw [if_pos h1, if_pos h1]
    by_cases h2 : rg 0 2 q
    · rw [if_pos h2, if_pos h2]
      by_cases h3 : cnt (fun z => decide (tkn M u z)) n1 0 0 = 2
      · rw [if_pos h3, if_pos h3]; exact ⟨rfl, rfl, h⟩
      · rw [if_neg h3, if_neg h3]
        exact rel_tk3 h (fun j hj => by rw [(plc_lt hj).2.2.2.1]; decide)
    · rw [if_neg h2, if_neg h2]; exact ⟨rfl, rfl, h⟩
  · rw [if_neg h1, if_neg h1]; exact ⟨rfl, rfl, h⟩
theorem cl_lt {x : Int32} {n : Nat} (hn : n < 2 ^ 31) (h : inR x n) : cl x < n ∧ nI (cl x) = x := by
  have h1 := cl_of h.1
  have h2 := h.2
  have h4 : x.toInt < 2 ^ 31 := Int32.toInt_lt x
  have h5 : cl x = x.toInt.toNat := rfl
  rw [← h1] at h2
  exact ⟨(yn_lt (by omega) hn).mp h2, h1⟩
theorem rel_finish (h : yRel M R) {x : Int32} {C : Nat → Nat → Int32} {n0 ds n1 : Nat} (hn0 : n0 ≤ 8) (hn : n1 ≤ 80) (hC : ∀ z, z < n0 → 0 ≤ C 0 z) (h4 : ∀ z, z < n1 → 0 ≤ M 4 z) (hcs : ∀ z, z < n1 → M 5 z = 116 → ∃ q, q < n0 ∧ M 3 z = nI q) : (o_finish x C R n1).1 = (o_finishC x C M ds n1).1 ∧ (o_finish x C R n1).2.1 = (o_finishC x C M ds n1).2.1 ∧ (o_finish x C R n1).2.2.1 = (o_finishC x C M ds n1).2.2.1 ∧ yRel (o_finishC x C M ds n1).2.2.2.1 (o_finish x C R n1).2.2.2 := by
  unfold o_finish o_finishC
  rw [h.e5, h.e3]
  by_cases h1 : inR x n1
  · rw [if_pos h1, if_pos h1]
    by_cases h2 : M 5 (cl x) = 116
    · rw [if_pos h2, if_pos h2]
      have h3 := cl_lt (by omega) h1
      obtain ⟨q, hq, hm⟩ := hcs _ h3.1 h2
      have h6 : cl (M 3 (cl x)) = q := by rw [hm]; exact nI_clamp (by omega)
      rw [fin_C h (by rw [h6]; exact hC q hq) (h4 _ h3.1)]
      exact ⟨rfl, rfl, rfl, rel_l10 (rel_w2 h (by decide) (fun _ h8 => absurd h8 (by rw [h2]; decide)))⟩
    · rw [if_neg h2, if_neg h2]; exact ⟨rfl, rfl, rfl, h⟩
  · rw [if_neg h1, if_neg h1]; exact ⟨rfl, rfl, rfl, h⟩
theorem rel_handBack (h : yRel M R) {x : Int32} {n1 d : Nat} (hn : n1 ≤ 80) (h7 : ∀ z, z < n1 → M 5 z ≠ 120 → M 7 z = 0 ∨ M 7 z = 1 ∨ M 7 z = 2) : (o_handBack x R n1 d).1 = (o_handBackC x M n1 d).1 ∧ (o_handBack x R n1 d).2.1 = (o_handBackC x M n1 d).2.1 ∧ yRel (o_handBackC x M n1 d).2.2 (o_handBack x R n1 d).2.2 := by
  unfold o_handBack o_handBackC
  rw [h.e5, h.e7]
  by_cases h1 : inR x n1
  · rw [if_pos h1, if_pos h1]
    by_cases h2 : M 5 (cl x) = 116
    · rw [if_pos h2, if_pos h2]
      have h5 : M 5 (cl x) ≠ 120 := by rw [h2]; decide
      exact ⟨rfl, rfl, pb_bk h h5 (h7 _ (cl_lt (by omega) h1).1 h5)⟩
    · rw [if_neg h2, if_neg h2]; exact ⟨rfl, rfl, h⟩
  · rw [if_neg h1, if_neg h1]; exact ⟨rfl, rfl, h⟩
theorem rel_revive (h : yRel M R) {x : Int32} {n1 d : Nat} : (o_revive x R n1 d).1 = (o_revive x M n1 d).1 ∧ (o_revive x R n1 d).2.1 = (o_revive x M n1 d).2.1 ∧ yRel (o_revive x M n1 d).2.2 (o_revive x R n1 d).2.2 := by
  unfold o_revive
  rw [h.e5, (rel_wk h).e5]
  by_cases h1 : inR x n1
  · rw [if_pos h1, if_pos h1]
    by_cases h2 : M 5 (cl x) = 120
    · rw [if_pos h2, if_pos h2]; exact ⟨rfl, rfl, rel_wk h⟩
    · rw [if_neg h2, if_neg h2]; exact ⟨rfl, rfl, h⟩
  · rw [if_neg h1, if_neg h1]; exact ⟨rfl, rfl, h⟩
/-- one message put back in the night, on both sides -/
theorem rel_pst (h : yRel M R) {i d : Nat} (hd : d ≤ 999) (h7 : M 5 i ≠ 120 → M 7 i = 0 ∨ M 7 i = 1 ∨ M 7 i = 2) (h9 : M 5 i = 116 → 0 ≤ M 9 i ∧ M 9 i ≤ nI d) : yRel (pst (nI d - 5) (nI d) i M) (bst (nI d) i R) := by
  unfold pst bst
  rw [h.e5, h.e9]
  have hc : (M 5 i = 116 ∧ M 9 i ≤ nI d - 5) = (M 5 i = 116 ∧ ¬ nI d - M 9 i < 5) := propext (and_congr_right fun h5 => by
    obtain ⟨h1, h2⟩ := h9 h5
    have e1 : (nI d - 5).toInt = d - 5 := by rw [toI_sub (Int32.le_iff_toInt_le.mpr (by rw [nI_toInt (by omega)]; exact Int.natCast_nonneg d)) (by decide), nI_toInt (by omega)]; rfl
    have e2 : (nI d - M 9 i).toInt = d - (M 9 i).toInt := by rw [toI_sub (Int32.le_iff_toInt_le.mpr (by rw [nI_toInt (by omega)]; exact Int.natCast_nonneg d)) h1, nI_toInt (by omega)]
    have e3 : (5 : Int32).toInt = 5 := rfl
    rw [Int32.le_iff_toInt_le, Int32.lt_iff_toInt_lt, e1, e2, e3]
    omega)
  simp only [hc]
  by_cases h1 : M 5 i = 116 ∧ ¬ nI d - M 9 i < 5
  · rw [if_pos h1, if_pos h1]
    have h5 : M 5 i ≠ 120 := by rw [h1.1]; decide
    exact pb_bk h h5 (h7 h5)
  · rw [if_neg h1, if_neg h1]; exact h
theorem rel_rmst (h : yRel M R) {C : Nat → Nat → Int32} {t : Int32} {c p n : Nat} : (rmst C t c (p, R, n)).1 = (rmst C t c (p, M, n)).1 ∧ (rmst C t c (p, R, n)).2.2 = (rmst C t c (p, M, n)).2.2 ∧ yRel (rmst C t c (p, M, n)).2.1 (rmst C t c (p, R, n)).2.1 := by
  unfold rmst may
  simp only
  rw [h.e1]
  split
  · exact ⟨rfl, rfl, rel_mad h⟩
  · exact ⟨rfl, rfl, h⟩
theorem rel_rms {C : Nat → Nat → Int32} {t : Int32} : ∀ {r c p n : Nat} {M R : Nat → Nat → Int32}, yRel M R → (rms C t r c (p, R, n)).1 = (rms C t r c (p, M, n)).1 ∧ (rms C t r c (p, R, n)).2.2 = (rms C t r c (p, M, n)).2.2 ∧ yRel (rms C t r c (p, M, n)).2.1 (rms C t r c (p, R, n)).2.1
  | 0, _, _, _, _, _, h => ⟨rfl, rfl, h⟩
  | r + 1, c, p, n, M, R, h => by
    obtain ⟨h1, h2, h3⟩ := rel_rmst h (C := C) (t := t) (c := c) (p := p) (n := n)
    have h4 := rel_rms (C := C) (t := t) (r := r) (c := c + 1) (p := (rmst C t c (p, M, n)).1) (n := (rmst C t c (p, M, n)).2.2) h3
    have e1 : rmst C t c (p, R, n) = ((rmst C t c (p, M, n)).1, (rmst C t c (p, R, n)).2.1, (rmst C t c (p, M, n)).2.2) := by rw [← h1, ← h2]
    rw [rms_1 e1]
    exact h4
end
