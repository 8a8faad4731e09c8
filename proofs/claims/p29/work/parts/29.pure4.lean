/-! what holds of the class's rows at every call -/
def okm (n0 d : Nat) (M : Nat → Nat → Int32) (z : Nat) : Prop := oks (M 5 z) ∧ (M 2 z = 112 ∨ M 2 z = 110 ∨ M 2 z = 114) ∧ 0 ≤ M 4 z ∧ (M 5 z ≠ 104 → ∃ q, q < n0 ∧ M 3 z = nI q) ∧ (M 5 z ≠ 120 → M 7 z = 0 ∨ M 7 z = 1 ∨ M 7 z = 2) ∧ (M 5 z = 116 → 0 ≤ M 9 z ∧ M 9 z ≤ nI d)
def yI (C : Nat → Nat → Int32) (n0 : Nat) (M : Nat → Nat → Int32) (ds n1 d : Nat) : Prop :=
  n0 ≤ 8 ∧ n1 ≤ 80 ∧ d ≤ 999 ∧ (∀ z, z < n0 → 0 ≤ C 0 z) ∧ (∀ z, C 4 z = 0 ∨ C 4 z = 1) ∧ (∀ z, n0 ≤ z → C 2 z = 0) ∧ (∀ z, z < n1 → okm n0 d M z) ∧ (∀ z, n1 ≤ z → M 7 z = 0) ∧ (∀ u, cnt (fun z => decide (tkn M u z)) n1 0 0 ≤ 2) ∧ ds = cnt (fun z => decide (M 5 z = 100)) n1 0 0 ∧ (∀ p, p < ds → ∃ q, q < n1 ∧ M 10 p = nI q ∧ M 5 q = 100) ∧ (∀ j, j < n0 → ∃ k, k ≤ ds ∧ lfr M (nI j) n1 ds 0 (C 5 j, 0) = (C 0 j, k) ∧ nI k = C 2 j)
theorem yn_le {a b : Nat} (h : a ≤ b) (hb : b < 2 ^ 31) : nI a ≤ nI b := by rw [Int32.le_iff_toInt_le, nI_toInt (by omega), nI_toInt hb]; omega
theorem nI_ge0 {a : Nat} (h : a < 2 ^ 31) : 0 ≤ nI a := by rw [Int32.le_iff_toInt_le, nI_toInt h]; exact Int.natCast_nonneg a
theorem nI_s1 {a : Nat} (h : a + 1 < 2 ^ 31) : nI (a + 1) = nI a + 1 := by
  apply Int32.toInt_inj.mp
  rw [Int32.toInt_add, nI_toInt h, nI_toInt (by omega), show (1 : Int32).toInt = 1 from rfl, Int.bmod_def]
  split <;> omega
section
variable {C : Nat → Nat → Int32} {n0 : Nat} {M : Nat → Nat → Int32} {ds n1 d : Nat}
theorem okm_cg {M' : Nat → Nat → Int32} {z : Nat} (h : ∀ a, a ≠ 6 → a ≠ 10 → M' a z = M a z) (ho : okm n0 d M z) : okm n0 d M' z := by
  unfold okm at ho ⊢
  rw [h 5 (by decide) (by decide), h 2 (by decide) (by decide), h 4 (by decide) (by decide), h 3 (by decide) (by decide), h 7 (by decide) (by decide), h 9 (by decide) (by decide)]
  exact ho
theorem okm_mono {z n0' d' : Nat} (hn : n0 ≤ n0') (hd : d ≤ d') (hd' : d' ≤ 999) (ho : okm n0 d M z) : okm n0' d' M z := by
  obtain ⟨h1, h2, h3, h4, h5, h6⟩ := ho
  refine ⟨h1, h2, h3, fun h => ?_, h5, fun h => ⟨(h6 h).1, Int32.le_trans (h6 h).2 (yn_le hd (by omega))⟩⟩
  obtain ⟨q, hq, e⟩ := h4 h
  exact ⟨q, by omega, e⟩
theorem lfr_top {cs : Int32} {n : Nat} : ∀ {r p : Nat} {u : Int32 × Nat}, lfr M cs n (r + 1) p u = lst M cs n (M 10 (p + r)) (lfr M cs n r p u)
  | 0, p, u => rfl
  | r + 1, p, u => by
    show lfr M cs n (r + 1) (p + 1) (lst M cs n (M 10 p) u) = _
    rw [lfr_top, show p + 1 + r = p + (r + 1) by omega]
    rfl
theorem lfr_cg {M' : Nat → Nat → Int32} {cs : Int32} {n n' : Nat} : ∀ {r p : Nat} {u : Int32 × Nat}, (∀ z, p ≤ z → z < p + r → ∀ v, lst M' cs n' (M' 10 z) v = lst M cs n (M 10 z) v) → lfr M' cs n' r p u = lfr M cs n r p u
  | 0, _, _, _ => rfl
  | r + 1, p, u, h => by
    show lfr M' cs n' r (p + 1) (lst M' cs n' (M' 10 p) u) = lfr M cs n r (p + 1) (lst M cs n (M 10 p) u)
    rw [h p (Nat.le_refl _) (by omega)]
    exact lfr_cg (fun z h1 h2 => h z (by omega) (by omega))
theorem lst_cg {M' : Nat → Nat → Int32} {cs : Int32} {n n' q : Nat} {v : Int32 × Nat} (hn : n ≤ n') (hn' : n' ≤ 80) (hq : q < n) (h2 : M' 2 q = M 2 q) (h3 : M' 3 q = M 3 q) (h4 : M' 4 q = M 4 q) : lst M' cs n' (nI q) v = lst M cs n (nI q) v := by
  have e : (nI q).toNatClampNeg = q := nI_clamp (by omega)
  have i1 : inR (nI q) n := ⟨Int32.not_lt.mpr (nI_ge0 (by omega)), (yn_lt (by omega) (by omega)).mpr hq⟩
  have i2 : inR (nI q) n' := ⟨i1.1, (yn_lt (by omega) (by omega)).mpr (by omega)⟩
  unfold lst
  have hc : (inR (nI q) n' ∧ M 3 q = cs) = (inR (nI q) n ∧ M 3 q = cs) := propext ⟨fun h => ⟨i1, h.2⟩, fun h => ⟨i2, h.2⟩⟩
  simp only [e, h2, h3, h4, hc]
theorem lfr_no {cs : Int32} {n : Nat} : ∀ {r p : Nat} {u : Int32 × Nat}, (∀ z, p ≤ z → z < p + r → ∀ v, lst M cs n (M 10 z) v = v) → lfr M cs n r p u = u
  | 0, _, _, _ => rfl
  | r + 1, p, u, h => by
    show lfr M cs n r (p + 1) (lst M cs n (M 10 p) u) = u
    rw [h p (Nat.le_refl _) (by omega)]
    exact lfr_no (fun z h1 h2 => h z (by omega) (by omega))
theorem lst_no {cs : Int32} {n q : Nat} {v : Int32 × Nat} (hq : q < 80) (h : M 3 q ≠ cs) : lst M cs n (nI q) v = v := by
  have e : (nI q).toNatClampNeg = q := nI_clamp (by omega)
  unfold lst
  rw [e, if_neg (fun h9 => h h9.2)]
theorem yI_ds (h : yI C n0 M ds n1 d) : ds ≤ n1 := by
  obtain ⟨_, _, _, _, _, _, _, _, _, h10, _⟩ := h
  have := cnt_le (fun z => decide (M 5 z = 100)) n1 0 0
  omega
theorem yI_lt (h : yI C n0 M ds n1 d) {z : Nat} (hz : z < n1) (h5 : M 5 z = 116) : ds < 80 := by
  obtain ⟨_, h2, _, _, _, _, _, _, _, h10, _⟩ := h
  have := cnt_all (q := fun z => decide (M 5 z = 100)) hz (decide_eq_false (by rw [h5]; decide))
  omega
/-- one message's rows 5 to 9 change -/
theorem yI_ch {M' : Nat → Nat → Int32} (h : yI C n0 M ds n1 d) {i : Nat} (hi : i < n1) (r2 : M' 2 = M 2) (r3 : M' 3 = M 3) (r4 : M' 4 = M 4) (r10 : M' 10 = M 10) (ho : ∀ a z, z ≠ i → M' a z = M a z) (h5 : M 5 i ≠ 100) (h5' : M' 5 i ≠ 100) (ok : okm n0 d M' i) (ht : ∀ u, cnt (fun z => decide (tkn M' u z)) n1 0 0 ≤ 2) : yI C n0 M' ds n1 d := by
  obtain ⟨a1, a2, a3, a4, a5, a6, a7, a8, a9, a10, a11, a12⟩ := h
  refine ⟨a1, a2, a3, a4, a5, a6, fun z hz => ?_, fun z hz => ?_, ht, ?_, fun p hp => ?_, fun j hj => ?_⟩
  · by_cases hzi : z = i
    · rw [hzi]; exact ok
    · exact okm_cg (fun a _ _ => ho a z hzi) (a7 z hz)
  · rw [ho 7 z (by omega)]; exact a8 z hz
  · rw [a10]
    refine cnt_dc (fun z => ?_) n1 0 0
    by_cases hzi : z = i
    · rw [hzi]; exact ⟨fun h => absurd h h5, fun h => absurd h h5'⟩
    · rw [ho 5 z hzi]
  · obtain ⟨q, e1, e2, e3⟩ := a11 p hp
    refine ⟨q, e1, by rw [r10]; exact e2, ?_⟩
    rw [ho 5 q (fun hq => h5 (by rw [← hq]; exact e3))]
    exact e3
  · obtain ⟨k, e1, e2, e3⟩ := a12 j hj
    refine ⟨k, e1, ?_, e3⟩
    rw [← e2]
    refine lfr_cg (fun z _ _ v => ?_)
    unfold lst
    rw [r2, r3, r4, r10]
theorem tk_no {M' : Nat → Nat → Int32} (h : ∀ u, cnt (fun z => decide (tkn M u z)) n1 0 0 ≤ 2) {i : Nat} (ho : ∀ a z, z ≠ i → M' a z = M a z) (h5' : M' 5 i ≠ 116) : ∀ u, cnt (fun z => decide (tkn M' u z)) n1 0 0 ≤ 2 := by
  intro u
  refine Nat.le_trans (cnt_le2 (fun z hz => ?_) n1 0) (h u)
  have hz := of_decide_eq_true hz
  by_cases hzi : z = i
  · rw [hzi] at hz; exact absurd hz.1 h5'
  · refine decide_eq_true ?_
    have h1 := hz.1
    have h2 := hz.2
    rw [ho 5 z hzi] at h1
    rw [ho 8 z hzi] at h2
    exact ⟨h1, h2⟩
theorem yI_tk (h : yI C n0 M ds n1 d) : ∀ u, cnt (fun z => decide (tkn M u z)) n1 0 0 ≤ 2 := h.2.2.2.2.2.2.2.2.1
theorem yI_ok (h : yI C n0 M ds n1 d) : ∀ z, z < n1 → okm n0 d M z := h.2.2.2.2.2.2.1
theorem w2_o {k i : Nat} {x : Int32} (a z : Nat) (hz : z ≠ i) : w2 M k i x a z = M a z := w2_x (fun h9 => hz h9.2)
theorem yI_rst (h : yI C n0 M ds n1 d) {m i : Nat} {t : Int32} (hm : m < n0) (hi : i < n1) : yI C n0 (rst (nI m) t i M) ds n1 d := by
  unfold rst
  by_cases h1 : M 5 i = 104 ∧ M 3 i = nI m
  · rw [if_pos h1]
    have hk := yI_ok h i hi
    have ho : ∀ a z, z ≠ i → w2 (w2 M 5 i 119) 6 i (mx (M 6 i) t) a z = M a z := fun a z hz => by rw [w2_o a z hz, w2_o a z hz]
    have e5 : w2 (w2 M 5 i 119) 6 i (mx (M 6 i) t) 5 i = 119 := by rw [w2_x (by omega), w2_s]
    refine yI_ch h hi rfl rfl rfl rfl ho (by rw [h1.1]; decide) (by rw [e5]; decide) ?_ (tk_no (yI_tk h) ho (by rw [e5]; decide))
    refine ⟨Or.inr (Or.inl e5), hk.2.1, hk.2.2.1, fun _ => ⟨m, hm, h1.2⟩, fun _ => hk.2.2.2.2.1 (by rw [h1.1]; decide), fun h9 => ?_⟩
    rw [e5] at h9; exact absurd h9 (by decide)
  · rw [if_neg h1]; exact h
theorem yI_rel {m : Nat} {t : Int32} (hm : m < n0) : ∀ {r i : Nat} {M : Nat → Nat → Int32}, yI C n0 M ds n1 d → i + r ≤ n1 → yI C n0 (rel (nI m) t r i M) ds n1 d
  | 0, _, _, h, _ => h
  | r + 1, i, _, h, hi => yI_rel hm (r := r) (i := i + 1) (yI_rst h hm (by omega)) (by omega)
theorem yI_wk (h : yI C n0 M ds n1 d) {i : Nat} {t : Int32} (hi : i < n1) (h5 : M 5 i = 120) : yI C n0 (wk M i t) ds n1 d := by
  have hk := yI_ok h i hi
  have ho : ∀ a z, z ≠ i → wk M i t a z = M a z := fun a z hz => by unfold wk; rw [w2_o a z hz, w2_o a z hz, w2_o a z hz]
  have e5 : wk M i t 5 i = 119 := by unfold wk; rw [w2_x (by omega), w2_x (by omega), w2_s]
  have e7 : wk M i t 7 i = 0 := by unfold wk; rw [w2_s]
  refine yI_ch h hi rfl rfl rfl rfl ho (by rw [h5]; decide) (by rw [e5]; decide) ?_ (tk_no (yI_tk h) ho (by rw [e5]; decide))
  refine ⟨Or.inr (Or.inl e5), hk.2.1, hk.2.2.1, fun _ => hk.2.2.2.1 (by rw [h5]; decide), fun _ => Or.inl e7, fun h9 => ?_⟩
  rw [e5] at h9; exact absurd h9 (by decide)
theorem yI_pb (h : yI C n0 M ds n1 d) {i : Nat} {t : Int32} (hi : i < n1) (h5 : M 5 i = 116) : yI C n0 (pb M i t) ds n1 d := by
  have hk := yI_ok h i hi
  have h7 := hk.2.2.2.2.1 (by rw [h5]; decide)
  unfold pb
  by_cases h1 : M 7 i + 1 < 3
  · rw [if_pos h1]
    have ho : ∀ a z, z ≠ i → w2 (w2 (w2 M 7 i (M 7 i + 1)) 5 i 119) 6 i (t + 2 * (M 7 i + 1)) a z = M a z := fun a z hz => by rw [w2_o a z hz, w2_o a z hz, w2_o a z hz]
    have e5 : w2 (w2 (w2 M 7 i (M 7 i + 1)) 5 i 119) 6 i (t + 2 * (M 7 i + 1)) 5 i = 119 := by rw [w2_x (by omega), w2_s]
    have e7 : w2 (w2 (w2 M 7 i (M 7 i + 1)) 5 i 119) 6 i (t + 2 * (M 7 i + 1)) 7 i = M 7 i + 1 := by rw [w2_x (by omega), w2_x (by omega), w2_s]
    refine yI_ch h hi rfl rfl rfl rfl ho (by rw [h5]; decide) (by rw [e5]; decide) ?_ (tk_no (yI_tk h) ho (by rw [e5]; decide))
    refine ⟨Or.inr (Or.inl e5), hk.2.1, hk.2.2.1, fun _ => hk.2.2.2.1 (by rw [h5]; decide), fun _ => ?_, fun h9 => ?_⟩
    · rw [e7]
      rcases h7 with h7 | h7 | h7 <;> rw [h7] at h1 ⊢ <;> revert h1 <;> decide
    · rw [e5] at h9; exact absurd h9 (by decide)
  · rw [if_neg h1]
    have ho : ∀ a z, z ≠ i → w2 (w2 M 7 i (M 7 i + 1)) 5 i 120 a z = M a z := fun a z hz => by rw [w2_o a z hz, w2_o a z hz]
    have e5 : w2 (w2 M 7 i (M 7 i + 1)) 5 i 120 5 i = 120 := by rw [w2_s]
    refine yI_ch h hi rfl rfl rfl rfl ho (by rw [h5]; decide) (by rw [e5]; decide) ?_ (tk_no (yI_tk h) ho (by rw [e5]; decide))
    refine ⟨Or.inr (Or.inr (Or.inr (Or.inr e5))), hk.2.1, hk.2.2.1, fun _ => hk.2.2.2.1 (by rw [h5]; decide), fun h9 => absurd e5 h9, fun h9 => ?_⟩
    rw [e5] at h9; exact absurd h9 (by decide)
theorem yI_tk3 (h : yI C n0 M ds n1 d) {u : Int32} {j : Nat} (hj : j < n1) (h5 : M 5 j = 119) (hu : ¬ cnt (fun z => decide (tkn M u z)) n1 0 0 = 2) : yI C n0 (w2 (w2 (w2 M 5 j 116) 8 j u) 9 j (nI d)) ds n1 d := by
  have hk := yI_ok h j hj
  have ho : ∀ a z, z ≠ j → w2 (w2 (w2 M 5 j 116) 8 j u) 9 j (nI d) a z = M a z := fun a z hz => by rw [w2_o a z hz, w2_o a z hz, w2_o a z hz]
  have e5 : w2 (w2 (w2 M 5 j 116) 8 j u) 9 j (nI d) 5 j = 116 := by rw [w2_x (by omega), w2_x (by omega), w2_s]
  have e8 : w2 (w2 (w2 M 5 j 116) 8 j u) 9 j (nI d) 8 j = u := by rw [w2_x (by omega), w2_s]
  have e9 : w2 (w2 (w2 M 5 j 116) 8 j u) 9 j (nI d) 9 j = nI d := by rw [w2_s]
  have hd : d ≤ 999 := h.2.2.1
  refine yI_ch h hj rfl rfl rfl rfl ho (by rw [h5]; decide) (by rw [e5]; decide) ?_ (fun v => ?_)
  · refine ⟨Or.inr (Or.inr (Or.inl e5)), hk.2.1, hk.2.2.1, fun _ => hk.2.2.2.1 (by rw [h5]; decide), fun _ => hk.2.2.2.2.1 (by rw [h5]; decide), fun _ => ?_⟩
    rw [e9]
    exact ⟨nI_ge0 (by omega), Int32.le_refl _⟩
  · by_cases hv : v = u
    · subst hv
      have h1 := cnt_add (p := fun z => decide (tkn (w2 (w2 (w2 M 5 j 116) 8 j v) 9 j (nI d)) v z)) (q := fun z => decide (tkn M v z)) (s := fun z => decide (z = j)) (fun z => bool3 (by
        by_cases hz : z = j
        · rw [hz]; exact ⟨fun _ => Or.inr rfl, fun _ => ⟨e5, e8⟩⟩
        · show (_ = _ ∧ _ = _) ↔ _
          rw [ho 5 z hz, ho 8 z hz]
          exact ⟨Or.inl, fun h => h.elim id (fun h => absurd h hz)⟩) (fun h9 => by
        have h10 := h9.1.1
        rw [h9.2, h5] at h10
        exact absurd h10 (by decide))) n1 0
      rw [cnt_one (Nat.zero_le _) (by omega)] at h1
      have := yI_tk h v
      omega
    · refine Nat.le_trans (cnt_le2 (fun z hz => ?_) n1 0) (yI_tk h v)
      have hz := of_decide_eq_true hz
      by_cases hzi : z = j
      · have h2 := hz.2
        rw [hzi, e8] at h2
        exact absurd h2.symm hv
      · refine decide_eq_true ?_
        have h1 := hz.1
        have h2 := hz.2
        rw [ho 5 z hzi] at h1
        rw [ho 8 z hzi] at h2
        exact ⟨h1, h2⟩
end
