section
variable {C : Nat → Nat → Int32} {n0 : Nat} {M : Nat → Nat → Int32} {ds n1 d : Nat}
theorem mad_o {n : Nat} {q key kd cs ct t st : Int32} (a z : Nat) (hz : z ≠ n) : mad2 M n q key kd cs ct t st a z = M a z := by unfold mad2; rw [w2_o a z hz, w2_o a z hz, w2_o a z hz, w2_o a z hz, w2_o a z hz, w2_o a z hz, w2_o a z hz]
theorem mad_at {n : Nat} {q key kd cs ct t st : Int32} : mad2 M n q key kd cs ct t st 2 n = kd ∧ mad2 M n q key kd cs ct t st 3 n = cs ∧ mad2 M n q key kd cs ct t st 4 n = ct ∧ mad2 M n q key kd cs ct t st 5 n = st := by
  unfold mad2
  refine ⟨?_, ?_, ?_, ?_⟩
  · rw [w2_x (by omega), w2_x (by omega), w2_x (by omega), w2_x (by omega), w2_s]
  · rw [w2_x (by omega), w2_x (by omega), w2_x (by omega), w2_s]
  · rw [w2_x (by omega), w2_x (by omega), w2_s]
  · rw [w2_s]
/-- a message is added -/
theorem yI_add (h : yI C n0 M ds n1 d) {q key kd cs ct t st : Int32} (hn : n1 < 80) (hs : st = 119 ∨ st = 104) (hkd : kd = 112 ∨ kd = 110 ∨ kd = 114) (hct : 0 ≤ ct) (hcs : st = 119 → ∃ q, q < n0 ∧ cs = nI q) : yI C n0 (mad2 M n1 q key kd cs ct t st) ds (n1 + 1) d := by
  obtain ⟨a1, a2, a3, a4, a5, a6, a7, a8, a9, a10, a11, a12⟩ := h
  have ho : ∀ a z, z ≠ n1 → mad2 M n1 q key kd cs ct t st a z = M a z := fun a z hz => mad_o a z hz
  obtain ⟨e2, e3, e4, e5⟩ := mad_at (M := M) (n := n1) (q := q) (key := key) (kd := kd) (cs := cs) (ct := ct) (t := t) (st := st)
  have e7 : mad2 M n1 q key kd cs ct t st 7 = M 7 := rfl
  have n116 : st ≠ 116 := by rcases hs with hs | hs <;> rw [hs] <;> decide
  have n100 : st ≠ 100 := by rcases hs with hs | hs <;> rw [hs] <;> decide
  generalize hM : mad2 M n1 q key kd cs ct t st = M' at ho e2 e3 e4 e5 e7 ⊢
  refine ⟨a1, by omega, a3, a4, a5, a6, fun z hz => ?_, fun z hz => ?_, fun u => ?_, ?_, fun p hp => ?_, fun j hj => ?_⟩
  · by_cases hzi : z = n1
    · rw [hzi]
      refine ⟨?_, ?_, ?_, fun h9 => ?_, fun _ => ?_, fun h9 => ?_⟩
      · rw [e5]; rcases hs with hs | hs
        · exact Or.inr (Or.inl hs)
        · exact Or.inl hs
      · rw [e2]; exact hkd
      · rw [e4]; exact hct
      · rw [e5] at h9
        obtain ⟨q9, h1, h2⟩ := hcs (hs.elim id (fun h8 => absurd h8 h9))
        exact ⟨q9, h1, by rw [e3]; exact h2⟩
      · rw [e7]; exact Or.inl (a8 n1 (Nat.le_refl _))
      · rw [e5] at h9; exact absurd h9 n116
    · exact okm_cg (fun a _ _ => ho a z hzi) (a7 z (by omega))
  · rw [e7]; exact a8 z (by omega)
  · rw [cnt_top, Nat.zero_add, decide_eq_false (fun h9 => by rw [tkn, e5] at h9; exact n116 h9.1), Bool.toNat_false, Nat.add_zero]
    rw [cnt_cg (q := fun z => decide (tkn M u z)) (fun z _ hz => by simp only [tkn]; rw [ho 5 z (by omega), ho 8 z (by omega)])]
    exact a9 u
  · rw [a10, cnt_top, Nat.zero_add, decide_eq_false (fun h9 => by rw [e5] at h9; exact n100 h9), Bool.toNat_false, Nat.add_zero]
    exact cnt_cg (fun z _ hz => by rw [ho 5 z (by omega)])
  · obtain ⟨q9, h1, h2, h3⟩ := a11 p hp
    refine ⟨q9, by omega, ?_, by rw [ho 5 q9 (by omega)]; exact h3⟩
    rw [← hM]; exact h2
  · obtain ⟨k, h1, h2, h3⟩ := a12 j hj
    refine ⟨k, h1, ?_, h3⟩
    rw [← h2]
    refine lfr_cg (fun z _ hz v => ?_)
    obtain ⟨q9, g1, g2, g3⟩ := a11 z (by omega)
    have g4 : M' 10 z = M 10 z := by rw [← hM]; rfl
    rw [g4, g2]
    exact lst_cg (by omega) (by omega) g1 (ho 2 q9 (by omega)) (ho 3 q9 (by omega)) (ho 4 q9 (by omega))
/-- rows of the cases that no count reads -/
theorem yI_C {C' : Nat → Nat → Int32} (h : yI C n0 M ds n1 d) (h0 : C' 0 = C 0) (h2 : C' 2 = C 2) (h5 : C' 5 = C 5) (h4 : ∀ z, C' 4 z = 0 ∨ C' 4 z = 1) : yI C' n0 M ds n1 d := by
  obtain ⟨a1, a2, a3, a4, a5, a6, a7, a8, a9, a10, a11, a12⟩ := h
  refine ⟨a1, a2, a3, ?_, h4, ?_, a7, a8, a9, a10, a11, ?_⟩
  · rw [h0]; exact a4
  · rw [h2]; exact a6
  · rw [h0, h2, h5]; exact a12
theorem yI_day (h : yI C n0 M ds n1 d) {d' : Nat} (hd : d ≤ d') (hd' : d' ≤ 999) : yI C n0 M ds n1 d' := by
  obtain ⟨a1, a2, a3, a4, a5, a6, a7, a8, a9, a10, a11, a12⟩ := h
  exact ⟨a1, a2, hd', a4, a5, a6, fun z hz => okm_mono (Nat.le_refl _) hd hd' (a7 z hz), a8, a9, a10, a11, a12⟩
theorem yI_pst (h : yI C n0 M ds n1 d) {i : Nat} {la t : Int32} (hi : i < n1) : yI C n0 (pst la t i M) ds n1 d := by
  unfold pst
  by_cases h1 : M 5 i = 116 ∧ M 9 i ≤ la
  · rw [if_pos h1]; exact yI_pb h hi h1.1
  · rw [if_neg h1]; exact h
theorem yI_pbk : ∀ {r i : Nat} {M R : Nat → Nat → Int32}, yI C n0 M ds n1 d → yRel M R → i + r ≤ n1 → yI C n0 (pbk (nI d - 5) (nI d) r i M) ds n1 d ∧ yRel (pbk (nI d - 5) (nI d) r i M) (bks (nI d) r i R)
  | 0, _, _, _, h, hr, _ => ⟨h, hr⟩
  | r + 1, i, M, R, h, hr, hi => by
    have hk := yI_ok h i (by omega)
    exact yI_pbk (r := r) (i := i + 1) (yI_pst h (by omega)) (rel_pst hr h.2.2.1 hk.2.2.2.2.1 hk.2.2.2.2.2) (by omega)
theorem yI_let (h : yI C n0 M ds n1 d) {c : Nat} (hc : c < n0) : 0 ≤ C 2 c := by
  have h8 := yI_ds h
  obtain ⟨a1, a2, a3, a4, a5, a6, a7, a8, a9, a10, a11, a12⟩ := h
  obtain ⟨k, h1, h2, h3⟩ := a12 c hc
  rw [← h3]
  exact nI_ge0 (by omega)
theorem yI_rmst {u : RM} {t : Int32} {c : Nat} (h : yI C n0 u.2.1 ds u.2.2 d) (hc : c < n0) : yI C n0 (rmst C t c u).2.1 ds (rmst C t c u).2.2 d := by
  unfold rmst
  by_cases h1 : u.2.2 < 80 ∧ may C u.2.1 u.2.2 c ∧ rfr C c ≤ t
  · rw [if_pos h1]
    exact yI_add h h1.1 (Or.inl rfl) (Or.inr (Or.inr rfl)) (yI_let h hc) (fun _ => ⟨c, hc, rfl⟩)
  · rw [if_neg h1]; exact h
theorem yI_rms {t : Int32} : ∀ {r c : Nat} {u : RM}, yI C n0 u.2.1 ds u.2.2 d → c + r ≤ n0 → yI C n0 (rms C t r c u).2.1 ds (rms C t r c u).2.2 d
  | 0, _, _, h, _ => h
  | r + 1, c, u, h, hc => yI_rms (r := r) (c := c + 1) (yI_rmst h (by omega)) (by omega)
/-- the days that pass, on both sides -/
theorem yI_pds : ∀ {r d p n1 : Nat} {M R : Nat → Nat → Int32}, yI C n0 M ds n1 d → yRel M R → d + r ≤ 999 → (pds C n0 r d (p, R, n1)).1 = (pdsC C n0 r d (p, M, n1)).1 ∧ (pds C n0 r d (p, R, n1)).2.2 = (pdsC C n0 r d (p, M, n1)).2.2 ∧ yRel (pdsC C n0 r d (p, M, n1)).2.1 (pds C n0 r d (p, R, n1)).2.1 ∧ yI C n0 (pdsC C n0 r d (p, M, n1)).2.1 ds (pdsC C n0 r d (p, M, n1)).2.2 (d + r)
  | 0, d, p, n1, M, R, h, hr, _ => ⟨rfl, rfl, hr, h⟩
  | r + 1, d, p, n1, M, R, h, hr, hd => by
    have h1 := yI_day h (Nat.le_succ d) (by omega)
    obtain ⟨h2, h3⟩ := yI_pbk (r := n1) (i := 0) h1 hr (by omega)
    have h4 := rel_rms (C := C) (t := nI (d + 1)) (r := n0) (c := 0) (p := 0) (n := n1) h3
    have h5 := yI_rms (t := nI (d + 1)) (r := n0) (c := 0) (u := (0, pbk (nI (d + 1) - 5) (nI (d + 1)) n1 0 M, n1)) h2 (by omega)
    have e1 : (pdm C n0 d R n1).1 = (pdC C n0 d M n1).1 := h4.1
    have e2 : (pdm C n0 d R n1).2.2 = (pdC C n0 d M n1).2.2 := h4.2.1
    have e3 : yRel (pdC C n0 d M n1).2.1 (pdm C n0 d R n1).2.1 := h4.2.2
    have e4 : yI C n0 (pdC C n0 d M n1).2.1 ds (pdC C n0 d M n1).2.2 (d + 1) := h5
    have h6 := yI_pds (r := r) (d := d + 1) (p := p + (pdC C n0 d M n1).1) e4 e3 (by omega)
    have e5 : (p + (pdm C n0 d R n1).1, (pdm C n0 d R n1).2) = (p + (pdC C n0 d M n1).1, (pdm C n0 d R n1).2.1, (pdC C n0 d M n1).2.2) := by rw [← e1, ← e2]
    have e6 : pds C n0 (r + 1) d (p, R, n1) = pds C n0 r (d + 1) (p + (pdC C n0 d M n1).1, (pdm C n0 d R n1).2.1, (pdC C n0 d M n1).2.2) := by rw [← e5]; rfl
    rw [e6, show d + (r + 1) = d + 1 + r by omega]
    exact h6
theorem yI_open (h : yI C n0 M ds n1 d) {x due : Int32} (hx : 0 ≤ x) (hn : n0 < 8) : yI (w2 (w2 (w2 C 5 n0 x) 0 n0 x) 1 n0 due) (n0 + 1) M ds n1 d := by
  have h8 := yI_ds h
  obtain ⟨a1, a2, a3, a4, a5, a6, a7, a8, a9, a10, a11, a12⟩ := h
  have e0 : w2 (w2 (w2 C 5 n0 x) 0 n0 x) 1 n0 due 0 n0 = x := by rw [w2_x (by omega), w2_s]
  have e5 : w2 (w2 (w2 C 5 n0 x) 0 n0 x) 1 n0 due 5 n0 = x := by rw [w2_x (by omega), w2_x (by omega), w2_s]
  have ho : ∀ a z, z ≠ n0 → w2 (w2 (w2 C 5 n0 x) 0 n0 x) 1 n0 due a z = C a z := fun a z hz => by rw [w2_o a z hz, w2_o a z hz, w2_o a z hz]
  refine ⟨by omega, a2, a3, fun z hz => ?_, a5, fun z hz => a6 z (by omega), fun z hz => okm_mono (by omega) (Nat.le_refl _) a3 (a7 z hz), a8, a9, a10, a11, fun j hj => ?_⟩
  · by_cases hz2 : z = n0
    · rw [hz2, e0]; exact hx
    · rw [ho 0 z hz2]; exact a4 z (by omega)
  · by_cases hj2 : j = n0
    · refine ⟨0, Nat.zero_le _, ?_, ?_⟩
      · rw [hj2, e5, e0]
        refine lfr_no (fun z _ hz v => ?_)
        obtain ⟨q, g1, g2, g3⟩ := a11 z (by omega)
        rw [g2]
        refine lst_no (by omega) (fun h9 => ?_)
        obtain ⟨q2, g4, g5⟩ := (a7 q g1).2.2.2.1 (by rw [g3]; decide)
        have := nI_inj (a := q2) (b := n0) (by omega) (by omega) (by rw [← g5, ← h9])
        omega
      · rw [hj2]; exact (a6 n0 (Nat.le_refl _)).symm
    · rw [ho 5 j hj2, ho 0 j hj2, ho 2 j hj2]
      exact a12 j (by omega)
end
