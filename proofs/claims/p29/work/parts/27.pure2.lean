theorem nI_inj {a b : Nat} (ha : a < 2 ^ 31) (hb : b < 2 ^ 31) (h : nI a = nI b) : a = b := by
  have h1 := nI_toInt ha
  have h2 := nI_toInt hb
  rw [h, h2] at h1
  omega
theorem cl_of {x : Int32} (h : ¬ x < 0) : nI (cl x) = x := by
  have h0 : ¬ x.toInt < (0 : Int32).toInt := fun h2 => h (Int32.lt_iff_toInt_lt.mpr h2)
  have h1 : (0 : Int32).toInt = 0 := rfl
  rw [h1] at h0
  have h2 : cl x = x.toInt.toNat := rfl
  have h3 : x.toInt < 2 ^ 31 := Int32.toInt_lt x
  apply Int32.toInt_inj.mp
  rw [nI_toInt (by omega), h2]
  omega
theorem yn_lt {a b : Nat} (ha : a < 2 ^ 31) (hb : b < 2 ^ 31) : nI a < nI b ↔ a < b := by
  rw [Int32.lt_iff_toInt_lt, nI_toInt ha, nI_toInt hb]; omega
section
variable {M : Nat → Nat → Int32}
theorem plc_some {q t pl : Int32} {n j : Nat} (hrj : rdy M q t j) (ha : nI (ahd M q t n j) = pl) (hu : ∀ i, i < n → rdy M q t i → nI (ahd M q t n i) = pl → i = j) : ∀ {r i : Nat}, i ≤ j → j < i + r → i + r ≤ n → plc M q t pl n r i = some j
  | 0, i, h1, h2, _ => by omega
  | r + 1, i, h1, h2, h3 => by
    by_cases hi : rdy M q t i ∧ nI (ahd M q t n i) = pl
    · have := hu i (by omega) hi.1 hi.2
      show (if rdy M q t i ∧ nI (ahd M q t n i) = pl then some i else plc M q t pl n r (i + 1)) = _
      rw [if_pos hi, this]
    · show (if rdy M q t i ∧ nI (ahd M q t n i) = pl then some i else plc M q t pl n r (i + 1)) = _
      rw [if_neg hi]
      have hij : i ≠ j := fun h => hi (by rw [h]; exact ⟨hrj, ha⟩)
      exact plc_some hrj ha hu (by omega) (by omega) (by omega)
theorem plc_none {q t pl : Int32} {n : Nat} (hu : ∀ i, i < n → rdy M q t i → ¬ nI (ahd M q t n i) = pl) : ∀ {r i : Nat}, i + r ≤ n → plc M q t pl n r i = none
  | 0, i, _ => rfl
  | r + 1, i, h3 => by
    show (if rdy M q t i ∧ nI (ahd M q t n i) = pl then some i else plc M q t pl n r (i + 1)) = _
    rw [if_neg (fun h => hu i (by omega) h.1 h.2)]
    exact plc_none hu (by omega)
theorem crd_le {q t : Int32} {n : Nat} : crd M q t n ≤ n := by have := cnt_le (fun z => decide (rdy M q t z)) n 0 0; unfold crd; omega
theorem plc_nth {q t pl : Int32} {n : Nat} (hn : n ≤ 80) : plc M q t pl n n 0 = if ¬ pl < 0 ∧ pl < nI (crd M q t n) then nthN M q t n (cl pl) else none := by
  have hc := crd_le (M := M) (q := q) (t := t) (n := n)
  by_cases h : ¬ pl < 0 ∧ pl < nI (crd M q t n)
  · rw [if_pos h]
    have h1 := cl_of h.1
    have h2 : cl pl < crd M q t n := by
      have h3 := h.2
      rw [← h1] at h3
      have h4 : pl.toInt < 2 ^ 31 := Int32.toInt_lt pl
      have h5 : cl pl = pl.toInt.toNat := rfl
      exact (yn_lt (by omega) (by omega)).mp h3
    obtain ⟨j, e1, e2, e3, e4⟩ := nthN_ok h2
    rw [e1]
    refine plc_some e3 (by rw [e4]; exact h1) (fun i hi hr he => ahd_inj hi e2 hr e3 ?_) (Nat.zero_le _) (by omega) (by omega)
    rw [e4]
    have h6 := ahd_lt hi hr
    exact nI_inj (by omega) (by omega) (he.trans h1.symm)
  · rw [if_neg h]
    refine plc_none (fun i hi hr he => h ?_) (by omega)
    have h6 := ahd_lt hi hr
    rw [← he]
    refine ⟨fun h7 => ?_, (yn_lt (by omega) (by omega)).mpr h6⟩
    have h8 := Int32.lt_iff_toInt_lt.mp h7
    rw [nI_toInt (by omega), show (0 : Int32).toInt = 0 from rfl] at h8
    omega
theorem rap_C {q pl : Int32} {n1 d : Nat} (hn : n1 ≤ 80) : o_rapC q pl M n1 d = o_rap q pl M n1 d := by
  unfold o_rapC o_rap
  by_cases h0 : rg 0 2 q
  · rw [if_pos h0, if_pos h0, plc_nth hn]
    by_cases h : ¬ pl < 0 ∧ pl < nI (crd M q (nI d) n1)
    · rw [if_pos h, if_pos h]
      have h1 := cl_of h.1
      have hc := crd_le (M := M) (q := q) (t := nI d) (n := n1)
      have h2 : cl pl < crd M q (nI d) n1 := by
        have h3 := h.2
        rw [← h1] at h3
        have h4 : pl.toInt < 2 ^ 31 := Int32.toInt_lt pl
        have h5 : cl pl = pl.toInt.toNat := rfl
        exact (yn_lt (by omega) (by omega)).mp h3
      obtain ⟨j, e1, _⟩ := nthN_ok h2
      rw [if_neg (by rw [e1]; exact fun h => nomatch h)]
    · rw [if_neg h, if_neg h, if_pos rfl]
  · rw [if_neg h0, if_neg h0]
theorem take_C {u q : Int32} {n1 d : Nat} (hn : n1 ≤ 80) (htk : cnt (fun z => decide (tkn M u z)) n1 0 0 ≤ 2) : o_takeC u q M n1 d = o_take u q M n1 d := by
  unfold o_takeC o_take
  have hp : plc M q (nI d) 0 n1 n1 0 = nxt M q (nI d) none n1 0 none := by
    rw [plc_nth hn]
    by_cases h : ¬ (0 : Int32) < 0 ∧ 0 < nI (crd M q (nI d) n1)
    · rw [if_pos h]; rfl
    · rw [if_neg h]
      have hc := crd_le (M := M) (q := q) (t := nI d) (n := n1)
      have h1 : crd M q (nI d) n1 = 0 := by
        refine Nat.eq_zero_of_not_pos fun h2 => h ⟨by decide, ?_⟩
        exact (yn_lt (a := 0) (by omega) (by omega)).mpr h2
      have hm := nxt_0 (M := M) (q := q) (t := nI d) (pv := none) (n := n1)
      cases hx : nxt M q (nI d) none n1 0 none with
      | none => rfl
      | some j =>
        rw [hx] at hm
        have h2 : 0 < crd M q (nI d) n1 := cnt_pos (Nat.zero_le j) (by have := hm.1; omega) (decide_eq_true hm.2.1.1)
        omega
  rw [hp]
  have h2 : (2 ≤ cnt (fun z => decide (tkn M u z)) n1 0 0) = (cnt (fun z => decide (tkn M u z)) n1 0 0 = 2) := propext ⟨fun h => by omega, fun h => by omega⟩
  simp only [h2]
end
/-- the check's rows beside the class's: the ready day of a dead message is the check's own; the order done is the class's own -/
def yRel (M R : Nat → Nat → Int32) : Prop := R 0 = M 0 ∧ R 1 = M 1 ∧ R 2 = M 2 ∧ R 3 = M 3 ∧ R 4 = M 4 ∧ R 5 = M 5 ∧ R 7 = M 7 ∧ R 8 = M 8 ∧ R 9 = M 9 ∧ ∀ z, M 5 z ≠ 120 → R 6 z = M 6 z
theorem yRel.e0 {M R : Nat → Nat → Int32} (h : yRel M R) : R 0 = M 0 := h.1
theorem yRel.e1 {M R : Nat → Nat → Int32} (h : yRel M R) : R 1 = M 1 := h.2.1
theorem yRel.e2 {M R : Nat → Nat → Int32} (h : yRel M R) : R 2 = M 2 := h.2.2.1
theorem yRel.e3 {M R : Nat → Nat → Int32} (h : yRel M R) : R 3 = M 3 := h.2.2.2.1
theorem yRel.e4 {M R : Nat → Nat → Int32} (h : yRel M R) : R 4 = M 4 := h.2.2.2.2.1
theorem yRel.e5 {M R : Nat → Nat → Int32} (h : yRel M R) : R 5 = M 5 := h.2.2.2.2.2.1
theorem yRel.e7 {M R : Nat → Nat → Int32} (h : yRel M R) : R 7 = M 7 := h.2.2.2.2.2.2.1
theorem yRel.e8 {M R : Nat → Nat → Int32} (h : yRel M R) : R 8 = M 8 := h.2.2.2.2.2.2.2.1
theorem yRel.e9 {M R : Nat → Nat → Int32} (h : yRel M R) : R 9 = M 9 := h.2.2.2.2.2.2.2.2.1
theorem yRel.e6 {M R : Nat → Nat → Int32} (h : yRel M R) : ∀ z, M 5 z ≠ 120 → R 6 z = M 6 z := h.2.2.2.2.2.2.2.2.2
section
variable {M R : Nat → Nat → Int32}
theorem rel_rdy (h : yRel M R) {q t : Int32} {z : Nat} : rdy R q t z ↔ rdy M q t z := by
  show R 0 z = q ∧ R 5 z = 119 ∧ R 6 z ≤ t ↔ M 0 z = q ∧ M 5 z = 119 ∧ M 6 z ≤ t
  rw [h.e0, h.e5]
  refine and_congr_right fun _ => and_congr_right fun h5 => ?_
  rw [h.e6 z (by rw [h5]; decide)]
theorem rel_gb (h : yRel M R) {i j : Nat} (hi : M 5 i ≠ 120) (hj : M 5 j ≠ 120) : gb R i j ↔ gb M i j := by
  show R 6 i < R 6 j ∨ (R 6 i = R 6 j ∧ i < j) ↔ _
  rw [h.e6 i hi, h.e6 j hj]
theorem cnt_dc {P Q : Nat → Prop} [DecidablePred P] [DecidablePred Q] (h : ∀ z, P z ↔ Q z) (n i a : Nat) : cnt (fun z => decide (P z)) n i a = cnt (fun z => decide (Q z)) n i a := cnt_cg (fun z _ _ => decide_eq_decide.mpr (h z))
theorem rel_ahd (h : yRel M R) {q t : Int32} {n i : Nat} (hi : rdy M q t i) : ahd R q t n i = ahd M q t n i :=
  cnt_dc (P := fun z => rdy R q t z ∧ gb R z i) (Q := fun z => rdy M q t z ∧ gb M z i) (fun z => by
    rw [rel_rdy h]
    exact and_congr_right fun h2 => rel_gb h (by rw [h2.2.1]; decide) (by rw [hi.2.1]; decide)) n 0 0
theorem rel_plc (h : yRel M R) {q t pl : Int32} {n : Nat} : ∀ {r i : Nat}, plc R q t pl n r i = plc M q t pl n r i
  | 0, _ => rfl
  | r + 1, i => by
    show (if rdy R q t i ∧ nI (ahd R q t n i) = pl then some i else plc R q t pl n r (i + 1)) = (if rdy M q t i ∧ nI (ahd M q t n i) = pl then some i else plc M q t pl n r (i + 1))
    rw [rel_plc h]
    have h1 : (rdy R q t i ∧ nI (ahd R q t n i) = pl) = (rdy M q t i ∧ nI (ahd M q t n i) = pl) := propext (by
      rw [rel_rdy h]
      exact and_congr_right fun h2 => by rw [rel_ahd h h2])
    simp only [h1]
theorem rel_rap (h : yRel M R) {q pl : Int32} {n1 d : Nat} : o_rap q pl R n1 d = o_rap q pl M n1 d := by
  unfold o_rap; rw [rel_plc h]
theorem rel_ready (h : yRel M R) {q : Int32} {n1 d : Nat} : o_ready q R n1 d = o_ready q M n1 d := by
  unfold o_ready; rw [cnt_dc (fun z => (rel_rdy h))]
theorem rel_row (h : yRel M R) {k : Nat} {z x : Int32} {n1 : Nat} (hk : R k = M k) : o_row k z x R n1 = o_row k z x M n1 := by unfold o_row; rw [hk]
theorem rel_rowIf (h : yRel M R) {k : Nat} {w x : Int32} {n1 : Nat} (hk : R k = M k) : o_rowIf k w x R n1 = o_rowIf k w x M n1 := by unfold o_rowIf; rw [hk, h.e5]
theorem rel_rowIf6 (h : yRel M R) {w x : Int32} {n1 : Nat} (hw : w ≠ 120) : o_rowIf 6 w x R n1 = o_rowIf 6 w x M n1 := by
  unfold o_rowIf
  by_cases h1 : inR x n1
  · rw [if_pos h1, if_pos h1, h.e5]
    by_cases h2 : M 5 (cl x) = w
    · rw [if_pos h2, if_pos h2, h.e6 _ (by rw [h2]; exact hw)]
    · rw [if_neg h2, if_neg h2]
  · rw [if_neg h1, if_neg h1]
theorem rel_has (h : yRel M R) {u : Int32} {n1 : Nat} : o_has u R n1 = o_has u M n1 := by
  unfold o_has tkn; rw [h.e5, h.e8]
theorem rel_count (h : yRel M R) {w : Int32} {n1 : Nat} : o_count w R n1 = o_count w M n1 := by unfold o_count; rw [h.e5]
theorem rel_share (h : yRel M R) {n1 : Nat} : o_share R n1 = o_share M n1 := by unfold o_share; rw [h.e5]
theorem rel_withKey (h : yRel M R) {key : Int32} {n1 : Nat} : o_withKey key R n1 = o_withKey key M n1 := by unfold o_withKey; rw [h.e1]
theorem rel_next (h : yRel M R) {x : Int32} {C : Nat → Nat → Int32} {n0 n1 d : Nat} : o_nextReminder x C n0 R n1 d = o_nextReminder x C n0 M n1 d := by unfold o_nextReminder may; rw [h.e1]
/-- the same store on both sides -/
theorem rel_w2 (h : yRel M R) {k i : Nat} {x : Int32} (hk : k ≠ 6) (h5 : k = 5 → M 5 i = 120 → R 6 i = M 6 i) : yRel (w2 M k i x) (w2 R k i x) := by
  refine ⟨?_, ?_, ?_, ?_, ?_, ?_, ?_, ?_, ?_, fun z hz => ?_⟩
  all_goals first | (funext z; rw [w2_ap, w2_ap]; first | rw [h.e0] | rw [h.e1] | rw [h.e2] | rw [h.e3] | rw [h.e4] | rw [h.e5] | rw [h.e7] | rw [h.e8] | rw [h.e9]) | skip
  rw [w2_ap] at hz
  rw [w2_ap, w2_ap, if_neg (by omega), if_neg (by omega)]
  by_cases h1 : 5 = k ∧ z = i
  · by_cases h2 : M 5 i = 120
    · rw [h1.2]; exact h5 h1.1.symm h2
    · rw [h1.2]; exact h.e6 i h2
  · rw [if_neg h1] at hz; exact h.e6 z hz
theorem rel_w6 (h : yRel M R) {i : Nat} {x : Int32} : yRel (w2 M 6 i x) (w2 R 6 i x) := by
  refine ⟨?_, ?_, ?_, ?_, ?_, ?_, ?_, ?_, ?_, fun z hz => ?_⟩
  all_goals first | (funext z; rw [w2_ap, w2_ap]; first | rw [h.e0] | rw [h.e1] | rw [h.e2] | rw [h.e3] | rw [h.e4] | rw [h.e5] | rw [h.e7] | rw [h.e8] | rw [h.e9]) | skip
  rw [w2_ap, if_neg (by omega)] at hz
  rw [w2_ap, w2_ap, h.e6 z hz]
end
