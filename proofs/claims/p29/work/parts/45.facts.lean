/-! what the helpers answer where the rows hold -/
def yJs (σ : SX) : Prop := yIs σ ∧ yK σ.1 σ.2.1 σ.2.2.1 σ.2.2.2.2.1
theorem inR_n {n : Nat} (hn : n < 2 ^ 31) : ¬ inR (nI n) n := fun h => absurd ((nI_ltI hn hn).mp h.2) (Nat.lt_irrefl _)
theorem inR_m {n : Nat} : ¬ inR (-1) n := fun h => h.1 (by decide)
theorem cnt5 {f : Nat → Int32} : ∀ {r i : Nat}, (∀ z, i ≤ z → z < i + r → oks (f z)) → cnt (fun z => decide (f z = 104)) r i 0 + cnt (fun z => decide (f z = 119)) r i 0 + cnt (fun z => decide (f z = 116)) r i 0 + cnt (fun z => decide (f z = 100)) r i 0 + cnt (fun z => decide (f z = 120)) r i 0 = r
  | 0, _, _ => rfl
  | r + 1, i, h => by
    have ih := cnt5 (f := f) (r := r) (i := i + 1) (fun z h1 h2 => h z (by omega) (by omega))
    have t : (decide (f i = 104)).toNat + (decide (f i = 119)).toNat + (decide (f i = 116)).toNat + (decide (f i = 100)).toNat + (decide (f i = 120)).toNat = 1 := by
      rcases h i (Nat.le_refl _) (by omega) with e | e | e | e | e <;> rw [e] <;> decide
    simp only [cnt_s]
    omega
theorem cnt4 {f g : Nat → Int32} : ∀ {r i : Nat}, (∀ z, i ≤ z → z < i + r → f z = 116 → ∃ u : Nat, u < 4 ∧ g z = nI u) → cnt (fun z => decide (f z = 116 ∧ g z = 0)) r i 0 + cnt (fun z => decide (f z = 116 ∧ g z = 1)) r i 0 + cnt (fun z => decide (f z = 116 ∧ g z = 2)) r i 0 + cnt (fun z => decide (f z = 116 ∧ g z = 3)) r i 0 = cnt (fun z => decide (f z = 116)) r i 0
  | 0, _, _ => rfl
  | r + 1, i, h => by
    have ih := cnt4 (f := f) (g := g) (r := r) (i := i + 1) (fun z h1 h2 => h z (by omega) (by omega))
    have t : (decide (f i = 116 ∧ g i = 0)).toNat + (decide (f i = 116 ∧ g i = 1)).toNat + (decide (f i = 116 ∧ g i = 2)).toNat + (decide (f i = 116 ∧ g i = 3)).toNat = (decide (f i = 116)).toNat := by
      by_cases h5 : f i = 116
      · obtain ⟨u, hu, e⟩ := h i (Nat.le_refl _) (by omega) h5
        rcases (show u = 0 ∨ u = 1 ∨ u = 2 ∨ u = 3 by omega) with e2 | e2 | e2 | e2 <;> rw [h5, e, e2] <;> decide
      · simp [h5]
    simp only [cnt_s]
    omega
theorem cntq {f g : Nat → Int32} {p : Nat → Prop} [DecidablePred p] : ∀ {r i : Nat}, cnt (fun z => decide (g z = 0 ∧ f z = 119 ∧ p z)) r i 0 + cnt (fun z => decide (g z = 1 ∧ f z = 119 ∧ p z)) r i 0 + cnt (fun z => decide (g z = 2 ∧ f z = 119 ∧ p z)) r i 0 ≤ cnt (fun z => decide (f z = 119)) r i 0
  | 0, _ => Nat.le_refl _
  | r + 1, i => by
    have ih := cntq (f := f) (g := g) (p := p) (r := r) (i := i + 1)
    have t : (decide (g i = 0 ∧ f i = 119 ∧ p i)).toNat + (decide (g i = 1 ∧ f i = 119 ∧ p i)).toNat + (decide (g i = 2 ∧ f i = 119 ∧ p i)).toNat ≤ (decide (f i = 119)).toNat := by
      by_cases h5 : f i = 119
      · by_cases h0 : g i = 0
        · have n1 : ¬ g i = 1 := by rw [h0]; decide
          have n2 : ¬ g i = 2 := by rw [h0]; decide
          simp [h5, n1, n2]; exact Bool.toNat_le _
        · by_cases h1 : g i = 1
          · have n2 : ¬ g i = 2 := by rw [h1]; decide
            simp [h5, h0, n2]; exact Bool.toNat_le _
          · simp [h5, h0, h1]; exact Bool.toNat_le _
      · simp [h5]
    simp only [cnt_s]
    omega
theorem sum4 {A B C D E : Nat} (h : A + B + C + D = E) : (0 : Int32) + nI A + nI B + nI C + nI D = nI E := by
  rw [show (0 : Int32) = nI 0 from rfl, nI_add, nI_add, nI_add, nI_add]; congr 1; omega
theorem sum3 {A B C E : Nat} (h : A + B + C ≤ E) (hE : E < 2 ^ 31) : ¬ nI E < (0 : Int32) + nI A + nI B + nI C := by
  rw [show (0 : Int32) = nI 0 from rfl, nI_add, nI_add, nI_add]
  exact Int32.not_lt.mpr (yn_le (by omega) hE)
section
variable {σ : SX}
theorem J_n0 (h : yJs σ) : σ.2.1 ≤ 8 := h.1.1
theorem J_n1 (h : yJs σ) : σ.2.2.2.2.1 ≤ 80 := h.1.2.1
theorem J_d (h : yJs σ) : σ.2.2.2.2.2 ≤ 999 := h.1.2.2.1
theorem J_q (h : yJs σ) {i : Nat} (hi : i < σ.2.2.2.2.1) : okq σ.2.2.1 i := h.2.1 i hi
theorem J_m (h : yJs σ) {i : Nat} (hi : i < σ.2.2.2.2.1) : okm σ.2.1 σ.2.2.2.2.2 σ.2.2.1 i := yI_ok h.1 i hi
theorem of_x {w : Nat} {x : Int32} (hw : w < 4) (hx : ¬ inR x σ.2.1) : f_of w x σ = -1001 := by
  rcases (show w = 0 ∨ w = 1 ∨ w = 2 ∨ w = 3 by omega) with rfl | rfl | rfl | rfl
  · exact (er_c (c := 1) (by unfold o_amount; rw [if_neg hx]) (by decide) (by decide)).symm
  · exact (er_c (c := 1) (by unfold o_letters; rw [if_neg hx]) (by decide) (by decide)).symm
  · exact (er_c (c := 1) (by unfold o_lbm; rw [if_neg hx]) (by decide) (by decide)).symm
  · exact (er_c (c := 1) (by unfold o_nextReminder; rw [if_neg hx]) (by decide) (by decide)).symm
theorem of_0 (h : yJs σ) {i : Nat} (hi : i < σ.2.1) : f_of 0 (nI i) σ = σ.1 0 i := by
  have h0 := J_n0 h
  have e : o_amount (nI i) σ.1 σ.2.1 = (0, σ.1 0 i) := by unfold o_amount; rw [if_pos (inR_nI (by omega) hi), clI (by omega)]
  show er (o_amount (nI i) σ.1 σ.2.1).1 (o_amount (nI i) σ.1 σ.2.1).2 = _
  rw [e]; exact er_0 rfl
theorem of_1 (h : yJs σ) {i : Nat} (hi : i < σ.2.1) : f_of 1 (nI i) σ = σ.1 2 i := by
  have h0 := J_n0 h
  have e : o_letters (nI i) σ.1 σ.2.1 = (0, σ.1 2 i) := by unfold o_letters; rw [if_pos (inR_nI (by omega) hi), clI (by omega)]
  show er (o_letters (nI i) σ.1 σ.2.1).1 (o_letters (nI i) σ.1 σ.2.1).2 = _
  rw [e]; exact er_0 rfl
theorem of_2 (h : yJs σ) {i : Nat} (hi : i < σ.2.1) : f_of 2 (nI i) σ = σ.1 2 i := by
  rw [← of_1 h hi]
  show er (o_lbm (nI i) σ.1 σ.2.1 σ.2.2.1 σ.2.2.2.1 σ.2.2.2.2.1).1 (o_lbm (nI i) σ.1 σ.2.1 σ.2.2.1 σ.2.2.2.1 σ.2.2.2.2.1).2 = er (o_letters (nI i) σ.1 σ.2.1).1 (o_letters (nI i) σ.1 σ.2.1).2
  rw [← yY_lbm (R := σ.2.2.1) ⟨h.1, yR_rf _⟩ (nI i)]
theorem of_3y (h : yJs σ) {i : Nat} (hi : i < σ.2.1) (hm : may σ.1 σ.2.2.1 σ.2.2.2.2.1 i) : f_of 3 (nI i) σ = mx (nI (σ.2.2.2.2.2 + 1)) (rfr σ.1 i) := by
  have h0 := J_n0 h
  have e : o_nextReminder (nI i) σ.1 σ.2.1 σ.2.2.1 σ.2.2.2.2.1 σ.2.2.2.2.2 = (0, mx (nI (σ.2.2.2.2.2 + 1)) (rfr σ.1 i)) := by unfold o_nextReminder; rw [if_pos (inR_nI (by omega) hi), clI (by omega), if_pos hm]
  show er (o_nextReminder (nI i) σ.1 σ.2.1 σ.2.2.1 σ.2.2.2.2.1 σ.2.2.2.2.2).1 (o_nextReminder (nI i) σ.1 σ.2.1 σ.2.2.1 σ.2.2.2.2.1 σ.2.2.2.2.2).2 = _
  rw [e]; exact er_0 rfl
theorem of_3n (h : yJs σ) {i : Nat} (hi : i < σ.2.1) (hm : ¬ may σ.1 σ.2.2.1 σ.2.2.2.2.1 i) : f_of 3 (nI i) σ = -1002 := by
  have h0 := J_n0 h
  have e : o_nextReminder (nI i) σ.1 σ.2.1 σ.2.2.1 σ.2.2.2.2.1 σ.2.2.2.2.2 = (2, 0) := by unfold o_nextReminder; rw [if_pos (inR_nI (by omega) hi), clI (by omega), if_neg hm]
  show er (o_nextReminder (nI i) σ.1 σ.2.1 σ.2.2.1 σ.2.2.2.2.1 σ.2.2.2.2.2).1 (o_nextReminder (nI i) σ.1 σ.2.1 σ.2.2.1 σ.2.2.2.2.1 σ.2.2.2.2.2).2 = _
  rw [e]; exact (er_c rfl (by decide) (by decide)).symm
theorem of_may (h : yJs σ) {i : Nat} (hi : i < σ.2.1) (h3 : ¬ f_of 3 (nI i) σ < 0) : may σ.1 σ.2.2.1 σ.2.2.2.2.1 i := by
  by_cases hm : may σ.1 σ.2.2.1 σ.2.2.2.2.1 i
  · exact hm
  · rw [of_3n h hi hm] at h3; exact absurd (by decide) h3
theorem msg_x {w : Nat} {x : Int32} (hw : w < 5) (hx : ¬ inR x σ.2.2.2.2.1) : f_msg w x σ = -1001 := by
  rcases (show w = 0 ∨ w = 1 ∨ w = 2 ∨ w = 3 ∨ w = 4 by omega) with rfl | rfl | rfl | rfl | rfl
  · exact (er_c (c := 1) (by unfold o_row; rw [if_neg hx]) (by decide) (by decide)).symm
  · exact (er_c (c := 1) (by unfold o_row; rw [if_neg hx]) (by decide) (by decide)).symm
  · exact (er_c (c := 1) (by unfold o_row; rw [if_neg hx]) (by decide) (by decide)).symm
  · exact (er_c (c := 1) (by unfold o_rowIf; rw [if_neg hx]) (by decide) (by decide)).symm
  · exact (er_c (c := 1) (by unfold o_rowIf; rw [if_neg hx]) (by decide) (by decide)).symm
theorem o_row_in {k : Nat} {z : Int32} {M : Nat → Nat → Int32} {n1 i : Nat} (hn : n1 ≤ 80) (hi : i < n1) : er (o_row k z (nI i) M n1).1 (o_row k z (nI i) M n1).2 = M k i := by
  have e : o_row k z (nI i) M n1 = (0, M k i) := by unfold o_row; rw [if_pos (inR_nI (by omega) hi), clI (by omega)]
  rw [e]; exact er_0 rfl
theorem o_rowIf_in {k : Nat} {w : Int32} {M : Nat → Nat → Int32} {n1 i : Nat} (hn : n1 ≤ 80) (hi : i < n1) : er (o_rowIf k w (nI i) M n1).1 (o_rowIf k w (nI i) M n1).2 = if M 5 i = w then M k i else -1002 := by
  by_cases h : M 5 i = w
  · have e : o_rowIf k w (nI i) M n1 = (0, M k i) := by unfold o_rowIf; rw [if_pos (inR_nI (by omega) hi), clI (by omega), if_pos h]
    rw [e, if_pos h]; exact er_0 rfl
  · have e : o_rowIf k w (nI i) M n1 = (2, 0) := by unfold o_rowIf; rw [if_pos (inR_nI (by omega) hi), clI (by omega), if_neg h]
    rw [e, if_neg h]; exact (er_c rfl (by decide) (by decide)).symm
theorem msg_0 (h : yJs σ) {i : Nat} (hi : i < σ.2.2.2.2.1) : f_msg 0 (nI i) σ = σ.2.2.1 5 i := o_row_in (J_n1 h) hi
theorem msg_1 (h : yJs σ) {i : Nat} (hi : i < σ.2.2.2.2.1) : f_msg 1 (nI i) σ = σ.2.2.1 2 i := o_row_in (J_n1 h) hi
theorem msg_2 (h : yJs σ) {i : Nat} (hi : i < σ.2.2.2.2.1) : f_msg 2 (nI i) σ = σ.2.2.1 7 i := o_row_in (J_n1 h) hi
theorem msg_3 (h : yJs σ) {i : Nat} (hi : i < σ.2.2.2.2.1) : f_msg 3 (nI i) σ = if σ.2.2.1 5 i = 119 then σ.2.2.1 6 i else -1002 := o_rowIf_in (J_n1 h) hi
theorem msg_4 (h : yJs σ) {i : Nat} (hi : i < σ.2.2.2.2.1) : f_msg 4 (nI i) σ = if σ.2.2.1 5 i = 116 then σ.2.2.1 8 i else -1002 := o_rowIf_in (J_n1 h) hi
theorem cnt_v {v : Int32} (hv : oks v) : f_cnt v σ = nI (cnt (fun z => decide (σ.2.2.1 5 z = v)) σ.2.2.2.2.1 0 0) := by
  have e : o_count v σ.2.2.1 σ.2.2.2.2.1 = (0, nI (cnt (fun z => decide (σ.2.2.1 5 z = v)) σ.2.2.2.2.1 0 0)) := by unfold o_count; rw [if_pos hv]
  unfold f_cnt; rw [e]; exact er_0 rfl
theorem has_v {u : Int32} (hu : rg 0 3 u) : f_has u σ = nI (cnt (fun z => decide (tkn σ.2.2.1 u z)) σ.2.2.2.2.1 0 0) := by
  have e : o_has u σ.2.2.1 σ.2.2.2.2.1 = (0, nI (cnt (fun z => decide (tkn σ.2.2.1 u z)) σ.2.2.2.2.1 0 0)) := by unfold o_has; rw [if_pos hu]
  unfold f_has; rw [e]; exact er_0 rfl
theorem rdy_v {q : Int32} (hq : rg 0 2 q) : f_rdy q σ = nI (crd σ.2.2.1 q (nI σ.2.2.2.2.2) σ.2.2.2.2.1) := by
  have e : o_ready q σ.2.2.1 σ.2.2.2.2.1 σ.2.2.2.2.2 = (0, nI (crd σ.2.2.1 q (nI σ.2.2.2.2.2) σ.2.2.2.2.1)) := by unfold o_ready; rw [if_pos hq]
  unfold f_rdy; rw [e]; exact er_0 rfl
theorem rap_v (h : yJs σ) {q : Int32} {k : Nat} (hq : rg 0 2 q) (hk : k < crd σ.2.2.1 q (nI σ.2.2.2.2.2) σ.2.2.2.2.1) : ∃ j, nthN σ.2.2.1 q (nI σ.2.2.2.2.2) σ.2.2.2.2.1 k = some j ∧ f_rap q (nI k) σ = nI j := by
  obtain ⟨j, h1, h2, h3, h4⟩ := nthN_ok hk
  have hn := J_n1 h
  have hc := crd_le (M := σ.2.2.1) (q := q) (t := nI σ.2.2.2.2.2) (n := σ.2.2.2.2.1)
  have e : o_rapC q (nI k) σ.2.2.1 σ.2.2.2.2.1 σ.2.2.2.2.2 = (0, nI j) := by
    unfold o_rapC
    rw [if_pos hq, if_pos ⟨nI_pos (by omega), (yn_lt (by omega) (by unfold crd at hc; omega)).mpr hk⟩, clI (by omega), h1]; rfl
  refine ⟨j, h1, ?_⟩
  unfold f_rap; rw [e]; exact er_0 rfl
theorem wk_n {x : Int32} (hf : fnd (σ.2.2.1 1) x σ.2.2.2.2.1 0 = none) : f_wk x σ = -1001 := by
  have e : o_withKey x σ.2.2.1 σ.2.2.2.2.1 = (1, 0) := by unfold o_withKey; rw [if_pos hf]
  unfold f_wk; rw [e]; exact (er_c rfl (by decide) (by decide)).symm
theorem wk_s {x : Int32} {j : Nat} (hf : fnd (σ.2.2.1 1) x σ.2.2.2.2.1 0 = some j) : f_wk x σ = nI j := by
  have e : o_withKey x σ.2.2.1 σ.2.2.2.2.1 = (0, nI j) := by unfold o_withKey; rw [if_neg (by rw [hf]; exact fun h => nomatch h), hf]; rfl
  unfold f_wk; rw [e]; exact er_0 rfl
theorem J_many (h : yJs σ) : 0 + f_cnt 104 σ + f_cnt 119 σ + f_cnt 116 σ + f_cnt 100 σ + f_cnt 120 σ = nI σ.2.2.2.2.1 := by
  rw [cnt_v (Or.inl rfl), cnt_v (Or.inr (Or.inl rfl)), cnt_v (Or.inr (Or.inr (Or.inl rfl))), cnt_v (Or.inr (Or.inr (Or.inr (Or.inl rfl)))), cnt_v (Or.inr (Or.inr (Or.inr (Or.inr rfl)))), show (0 : Int32) = nI 0 from rfl]
  simp only [nI_add]
  have := cnt5 (f := σ.2.2.1 5) (r := σ.2.2.2.2.1) (i := 0) (fun z _ hz => (J_m h (by omega)).1)
  congr 1; omega
theorem J_taken (h : yJs σ) : 0 + f_has 0 σ + f_has 1 σ + f_has 2 σ + f_has 3 σ = f_cnt 116 σ := by
  rw [cnt_v (Or.inr (Or.inr (Or.inl rfl))), has_v (by decide), has_v (by decide), has_v (by decide), has_v (by decide)]
  exact sum4 (cnt4 (f := σ.2.2.1 5) (g := σ.2.2.1 8) (r := σ.2.2.2.2.1) (i := 0) (fun z _ hz => (J_q h (by omega)).2.2.1))
theorem J_has (h : yJs σ) {u : Int32} (hu : rg 0 3 u) : ¬ f_has u σ < 0 ∧ f_has u σ ≤ 2 := by
  have h1 := yI_tk h.1 u
  rw [has_v hu]
  exact ⟨nI_pos (by omega), by rw [show (2 : Int32) = nI 2 from rfl]; exact yn_le h1 (by omega)⟩
theorem J_ready (h : yJs σ) : ¬ f_cnt 119 σ < 0 + f_rdy 0 σ + f_rdy 1 σ + f_rdy 2 σ := by
  rw [cnt_v (Or.inr (Or.inl rfl)), rdy_v (by decide), rdy_v (by decide), rdy_v (by decide)]
  have h2 := cnt_le (fun z => decide (σ.2.2.1 5 z = 119)) σ.2.2.2.2.1 0 0
  have h3 := J_n1 h
  exact sum3 (cntq (f := σ.2.2.1 5) (g := σ.2.2.1 0) (p := fun z => σ.2.2.1 6 z ≤ nI σ.2.2.2.2.2) (r := σ.2.2.2.2.1) (i := 0)) (by omega)
end
theorem share_all : ∀ b, b < 81 → ∀ a, a < b + 1 → b = 0 ∨ (¬ Op.cmpValue (FP.fcmp (FP.fdiv (FP.i2f (nI a)) (FP.i2f (nI b))) 3212836864) .l = 0 ∧ ¬ 0 < Op.cmpValue (FP.fcmp (FP.fdiv (FP.i2f (nI a)) (FP.i2f (nI b))) FP.fconst1) .g) := by decide +kernel
section
variable {σ : SX}
theorem share_0 (hn : σ.2.2.2.2.1 = 0) : f_share σ = 3212836864 := by
  have e : o_share σ.2.2.1 σ.2.2.2.2.1 = (1, 0) := by unfold o_share; rw [if_pos hn]
  unfold f_share; rw [e]; rfl
theorem share_n (h : yJs σ) (hn : ¬ σ.2.2.2.2.1 = 0) : ¬ Op.cmpValue (FP.fcmp (f_share σ) 3212836864) .l = 0 ∧ ¬ 0 < Op.cmpValue (FP.fcmp (f_share σ) FP.fconst1) .g := by
  have e : o_share σ.2.2.1 σ.2.2.2.2.1 = (0, FP.fdiv (FP.i2f (nI (cnt (fun z => decide (σ.2.2.1 5 z = 100)) σ.2.2.2.2.1 0 0))) (FP.i2f (nI σ.2.2.2.2.1))) := by unfold o_share; rw [if_neg hn]
  have e2 : f_share σ = FP.fdiv (FP.i2f (nI (cnt (fun z => decide (σ.2.2.1 5 z = 100)) σ.2.2.2.2.1 0 0))) (FP.i2f (nI σ.2.2.2.2.1)) := by unfold f_share; rw [e]; rfl
  rw [e2]
  have h1 := J_n1 h
  have h2 := cnt_le (fun z => decide (σ.2.2.1 5 z = 100)) σ.2.2.2.2.1 0 0
  exact (share_all σ.2.2.2.2.1 (by omega) _ (by omega)).resolve_left hn
end
