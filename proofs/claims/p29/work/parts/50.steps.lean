/-! the law's steps: what each call leaves, and what the law asks of it -/
theorem nI_dv {a b : Nat} (ha : a < 2 ^ 31) (hb : b < 2 ^ 31) : nI a / nI b = nI (a / b) := by
  apply Int32.toInt_inj.mp
  have h1 : a / b ≤ a := Nat.div_le_self a b
  have h2 : ((a : Int).tdiv (b : Int)) = ((a / b : Nat) : Int) := rfl
  rw [Int32.toInt_div, nI_toInt ha, nI_toInt hb, h2]
  generalize a / b = q at h1 ⊢
  rw [nI_toInt (by omega), Int.bmod_def]
  split <;> omega
theorem nI_md {a b : Nat} (ha : a < 2 ^ 31) (hb : b < 2 ^ 31) : nI a % nI b = nI (a % b) := by
  apply Int32.toInt_inj.mp
  have h1 : a % b ≤ a := Nat.mod_le a b
  rw [Int32.toInt_mod, nI_toInt ha, nI_toInt hb, nI_toInt (by omega)]
  rfl
theorem mx1_ne {x : Int32} : ¬ mx 1 x = 0 := by
  intro h
  have h1 := congrArg Int32.toInt h
  rw [mx_toInt, show (1 : Int32).toInt = 1 from rfl, show (0 : Int32).toInt = 0 from rfl] at h1
  omega
theorem er_ge {e a : Int32} (h : e = 0 ∨ e = 1 ∨ e = 2 ∨ e = 3) (h2 : ¬ er e a < 0) : e = 0 := by
  rcases h with h | h | h | h
  · exact h
  · rw [h] at h2; exact absurd (show er 1 a < 0 from by unfold er; rw [if_neg (by decide)]; decide) h2
  · rw [h] at h2; exact absurd (show er 2 a < 0 from by unfold er; rw [if_neg (by decide)]; decide) h2
  · rw [h] at h2; exact absurd (show er 3 a < 0 from by unfold er; rw [if_neg (by decide)]; decide) h2
theorem er_lt {e a : Int32} (ha : e = 0 → 0 ≤ a) (h2 : er e a < -1000) : ¬ e = 0 := fun h => by
  rw [er_0 h] at h2
  exact absurd (Int32.lt_of_le_of_lt (ha h) h2) (by decide)
section
variable {σ : SX}
/-! the state after each call -/
theorem J_open (h : yJs σ) (x due : Int32) : yJs (g_open x due σ) := by
  refine ⟨(yY_open (R := σ.2.2.1) ⟨h.1, yR_rf _⟩ x due).1, ?_⟩
  show yK (o_open x due σ.1 σ.2.1 σ.2.2.1 σ.2.2.2.2.1 σ.2.2.2.2.2).2.2.1 (o_open x due σ.1 σ.2.1 σ.2.2.1 σ.2.2.2.2.1 σ.2.2.2.2.2).2.2.2.2 (o_open x due σ.1 σ.2.1 σ.2.2.1 σ.2.2.2.2.1 σ.2.2.2.2.2).2.2.2.1 σ.2.2.2.2.1
  unfold o_open
  by_cases h1 : rg 1 9999 x
  · rw [if_pos h1]
    by_cases h2 : rg 0 999 due
    · rw [if_pos h2]
      by_cases h3 : σ.2.1 = 8
      · rw [if_pos h3]; exact h.2
      · rw [if_neg h3]
        exact yK_rel (J_d h) (yK_open h.2 rfl (h.1.2.2.2.2.2.1 _ (Nat.le_refl _))) (by omega)
    · rw [if_neg h2]; exact h.2
  · rw [if_neg h1]; exact h.2
theorem J_pause (h : yJs σ) (x dd : Int32) : yJs (g_pause x dd σ) := by
  refine ⟨(yY_pause (R := σ.2.2.1) ⟨h.1, yR_rf _⟩ x dd).1, ?_⟩
  show yK (o_pause x dd σ.1 σ.2.1 σ.2.2.2.2.2).2.2 σ.2.1 σ.2.2.1 σ.2.2.2.2.1
  unfold o_pause
  repeat' split
  all_goals first | exact h.2 | exact yK_C h.2 rfl
theorem J_await (h : yJs σ) (x : Int32) : yJs (g_await x σ) := by
  refine ⟨(yY_awaitNote (R := σ.2.2.1) ⟨h.1, yR_rf _⟩ x).1, ?_⟩
  show yK (o_awaitNote x σ.1 σ.2.1).2.2 σ.2.1 σ.2.2.1 σ.2.2.2.2.1
  unfold o_awaitNote
  repeat' split
  all_goals first | exact h.2 | exact yK_C h.2 rfl
theorem rg_nI {x : Int32} {n : Nat} (h0 : 0 ≤ x) {m : Int32} (hm : m.toInt = n) (h1 : x ≤ m) : ∃ y : Nat, y ≤ n ∧ x = nI y := by
  obtain ⟨y, hy, e⟩ := nI_of (Int32.not_lt.mpr h0)
  refine ⟨y, ?_, e⟩
  rw [e, Int32.le_iff_toInt_le, hm, nI_toInt hy] at h1
  omega
theorem J_post (h : yJs σ) (q key kd x v dl : Int32) : yJs (g_post q key kd x v dl σ) := by
  refine ⟨(yY_post (R := σ.2.2.1) ⟨h.1, yR_rf _⟩ q key kd x v dl).1, ?_⟩
  show yK σ.1 σ.2.1 (o_post q key kd x v dl σ.2.1 σ.2.2.1 σ.2.2.2.2.1 σ.2.2.2.2.2).2.2.1 (o_post q key kd x v dl σ.2.1 σ.2.2.1 σ.2.2.2.2.1 σ.2.2.2.2.2).2.2.2
  have hd := J_d h
  unfold o_post
  by_cases h1 : okp q key kd x v dl
  · rw [if_pos h1]
    by_cases h2 : fnd (σ.2.2.1 1) key σ.2.2.2.2.1 0 = none
    · rw [if_pos h2]
      by_cases h3 : σ.2.2.2.2.1 = 80
      · rw [if_pos h3]; exact h.2
      · rw [if_neg h3]
        obtain ⟨y, hy, ey⟩ := rg_nI (n := 999) h1.2.1.1 rfl h1.2.1.2
        obtain ⟨z, hz, ez⟩ := rg_nI (n := 30) h1.2.2.2.2.2.1 rfl h1.2.2.2.2.2.2
        refine yK_add h.2 (by split <;> simp) (by rw [ez, nI_add]; exact nI_ge0 (by omega)) h2 (Or.inl ⟨?_, y, by omega, ey⟩)
        rcases h1.2.2.1 with e | e <;> rw [e] <;> decide
    · rw [if_neg h2]; exact h.2
  · rw [if_neg h1]; exact h.2
theorem J_take (h : yJs σ) (u q : Int32) : yJs (g_take u q σ) := by
  refine ⟨(yY_take (R := σ.2.2.1) ⟨h.1, yR_rf _⟩ u q).1, ?_⟩
  show yK σ.1 σ.2.1 (o_takeC u q σ.2.2.1 σ.2.2.2.2.1 σ.2.2.2.2.2).2.2 σ.2.2.2.2.1
  unfold o_takeC
  by_cases h1 : rg 0 3 u
  · rw [if_pos h1]
    by_cases h2 : rg 0 2 q
    · rw [if_pos h2]
      by_cases h3 : 2 ≤ cnt (fun z => decide (tkn σ.2.2.1 u z)) σ.2.2.2.2.1 0 0
      · rw [if_pos h3]; exact h.2
      · rw [if_neg h3]
        have hm := nxt_0 (M := σ.2.2.1) (q := q) (t := nI σ.2.2.2.2.2) (pv := none) (n := σ.2.2.2.2.1)
        cases hx : nxt σ.2.2.1 q (nI σ.2.2.2.2.2) none σ.2.2.2.2.1 0 none with
        | none => exact h.2
        | some j =>
          rw [hx] at hm
          obtain ⟨y, hy, ey⟩ := rg_nI (n := 3) h1.1 rfl h1.2
          rw [ey]
          exact yK_tk3 h.2 hm.1 hm.2.1.1.2.1 (by omega)
    · rw [if_neg h2]; exact h.2
  · rw [if_neg h1]; exact h.2
theorem J_fin (h : yJs σ) (x : Int32) : yJs (g_fin x σ) := by
  refine ⟨(yY_finish (R := σ.2.2.1) ⟨h.1, yR_rf _⟩ x).1, ?_⟩
  show yK (o_finishC x σ.1 σ.2.2.1 σ.2.2.2.1 σ.2.2.2.2.1).2.2.1 σ.2.1 (o_finishC x σ.1 σ.2.2.1 σ.2.2.2.1 σ.2.2.2.2.1).2.2.2.1 σ.2.2.2.2.1
  have h0 := J_n0 h
  have h9 := J_n1 h
  unfold o_finishC
  by_cases h1 : inR x σ.2.2.2.2.1
  · rw [if_pos h1]
    by_cases h2 : σ.2.2.1 5 (cl x) = 116
    · rw [if_pos h2]
      have h3 := cl_lt (by omega) h1
      obtain ⟨q, hq, hm⟩ := yJ_cs h.1 _ h3.1 h2
      have h6 : cl (σ.2.2.1 3 (cl x)) = q := by rw [hm]; exact nI_clamp (by omega)
      have h7 := yK_fin h.1 h.2 h3.1 h2 hq hm
      rw [h3.2] at h7
      rw [h6]
      exact h7
    · rw [if_neg h2]; exact h.2
  · rw [if_neg h1]; exact h.2
theorem J_hb (h : yJs σ) (x : Int32) : yJs (g_hb x σ) := by
  refine ⟨(yY_handBack (R := σ.2.2.1) ⟨h.1, yR_rf _⟩ x).1, ?_⟩
  show yK σ.1 σ.2.1 (o_handBackC x σ.2.2.1 σ.2.2.2.2.1 σ.2.2.2.2.2).2.2 σ.2.2.2.2.1
  have h9 := J_n1 h
  unfold o_handBackC
  by_cases h1 : inR x σ.2.2.2.2.1
  · rw [if_pos h1]
    by_cases h2 : σ.2.2.1 5 (cl x) = 116
    · rw [if_pos h2]; exact yK_pb h.1 h.2 (J_d h) (cl_lt (by omega) h1).1 h2
    · rw [if_neg h2]; exact h.2
  · rw [if_neg h1]; exact h.2
theorem J_rev (h : yJs σ) (x : Int32) : yJs (g_rev x σ) := by
  refine ⟨(yY_revive (R := σ.2.2.1) ⟨h.1, yR_rf _⟩ x).1, ?_⟩
  show yK σ.1 σ.2.1 (o_revive x σ.2.2.1 σ.2.2.2.2.1 σ.2.2.2.2.2).2.2 σ.2.2.2.2.1
  have h9 := J_n1 h
  unfold o_revive
  by_cases h1 : inR x σ.2.2.2.2.1
  · rw [if_pos h1]
    by_cases h2 : σ.2.2.1 5 (cl x) = 120
    · rw [if_pos h2]; exact yK_wk h.2 (J_d h) (cl_lt (by omega) h1).1 h2
    · rw [if_neg h2]; exact h.2
  · rw [if_neg h1]; exact h.2
/-- days that pass: e of them, within the last day -/
theorem pass_v (h : yJs σ) {e : Nat} (h1 : 1 ≤ e) (h30 : e ≤ 30) (hd : σ.2.2.2.2.2 + e ≤ 999) : o_passC (nI e) σ.1 σ.2.1 σ.2.2.1 σ.2.2.2.2.1 σ.2.2.2.2.2 = (0, pdsC σ.1 σ.2.1 e σ.2.2.2.2.2 (0, σ.2.2.1, σ.2.2.2.2.1), σ.2.2.2.2.2 + e) := by
  unfold o_passC
  rw [if_pos (show rg 1 30 (nI e) from ⟨by rw [show (1 : Int32) = nI 1 from rfl]; exact yn_le h1 (by omega), by rw [show (30 : Int32) = nI 30 from rfl]; exact yn_le h30 (by decide)⟩), if_neg (by rw [nI_add, show (999 : Int32) = nI 999 from rfl]; exact Int32.not_lt.mpr (yn_le hd (by decide))), clI (by omega)]
theorem J_pass (h : yJs σ) {e : Nat} (h1 : 1 ≤ e) (h30 : e ≤ 30) (hd : σ.2.2.2.2.2 + e ≤ 999) : yJs (g_pass (nI e) σ) ∧ (g_pass (nI e) σ).2.2.2.2.2 = σ.2.2.2.2.2 + e := by
  obtain ⟨k1, k2⟩ := yK_days (r := e) (d := σ.2.2.2.2.2) (p := 0) h.1 h.2 hd
  refine ⟨⟨?_, ?_⟩, ?_⟩
  · show yI σ.1 σ.2.1 (o_passC (nI e) σ.1 σ.2.1 σ.2.2.1 σ.2.2.2.2.1 σ.2.2.2.2.2).2.1.2.1 σ.2.2.2.1 (o_passC (nI e) σ.1 σ.2.1 σ.2.2.1 σ.2.2.2.2.1 σ.2.2.2.2.2).2.1.2.2 (o_passC (nI e) σ.1 σ.2.1 σ.2.2.1 σ.2.2.2.2.1 σ.2.2.2.2.2).2.2
    rw [pass_v h h1 h30 hd]; exact k1
  · show yK σ.1 σ.2.1 (o_passC (nI e) σ.1 σ.2.1 σ.2.2.1 σ.2.2.2.2.1 σ.2.2.2.2.2).2.1.2.1 (o_passC (nI e) σ.1 σ.2.1 σ.2.2.1 σ.2.2.2.2.1 σ.2.2.2.2.2).2.1.2.2
    rw [pass_v h h1 h30 hd]; exact k2
  · show (o_passC (nI e) σ.1 σ.2.1 σ.2.2.1 σ.2.2.2.2.1 σ.2.2.2.2.2).2.2 = _
    rw [pass_v h h1 h30 hd]
theorem pass_f (h : yJs σ) {e : Nat} (h1 : 1 ≤ e) (h30 : e ≤ 30) (hd : σ.2.2.2.2.2 + e ≤ 999) : f_pass (nI e) σ = nI (pdsC σ.1 σ.2.1 e σ.2.2.2.2.2 (0, σ.2.2.1, σ.2.2.2.2.1)).1 := by
  unfold f_pass
  rw [pass_v h h1 h30 hd]; exact er_0 rfl
theorem rmst_c {C : Nat → Nat → Int32} {t : Int32} {c : Nat} {u : RM} : (rmst C t c u).2.2 + u.1 = u.2.2 + (rmst C t c u).1 := by
  unfold rmst; split
  · show u.2.2 + 1 + u.1 = u.2.2 + (u.1 + 1); omega
  · rfl
theorem rms_c {C : Nat → Nat → Int32} {t : Int32} : ∀ {r c : Nat} {u : RM}, (rms C t r c u).2.2 + u.1 = u.2.2 + (rms C t r c u).1
  | 0, _, _ => rfl
  | r + 1, c, u => by
    have h1 := rmst_c (C := C) (t := t) (c := c) (u := u)
    have h2 := rms_c (C := C) (t := t) (r := r) (c := c + 1) (u := rmst C t c u)
    show (rms C t r (c + 1) (rmst C t c u)).2.2 + u.1 = u.2.2 + (rms C t r (c + 1) (rmst C t c u)).1
    omega
theorem pds_c {C : Nat → Nat → Int32} {n0 : Nat} : ∀ {r d : Nat} {u : RM}, (pdsC C n0 r d u).2.2 + u.1 = u.2.2 + (pdsC C n0 r d u).1
  | 0, _, _ => rfl
  | r + 1, d, u => by
    have h1 := rms_c (C := C) (t := nI (d + 1)) (r := n0) (c := 0) (u := (0, pbk (nI (d + 1) - 5) (nI (d + 1)) u.2.2 0 u.2.1, u.2.2))
    have h2 := pds_c (C := C) (n0 := n0) (r := r) (d := d + 1) (u := (u.1 + (pdC C n0 d u.2.1 u.2.2).1, (pdC C n0 d u.2.1 u.2.2).2))
    have e1 : (pdC C n0 d u.2.1 u.2.2).2.2 = u.2.2 + (pdC C n0 d u.2.1 u.2.2).1 := by
      show (rms C (nI (d + 1)) n0 0 (0, pbk (nI (d + 1) - 5) (nI (d + 1)) u.2.2 0 u.2.1, u.2.2)).2.2 = u.2.2 + (rms C (nI (d + 1)) n0 0 (0, pbk (nI (d + 1) - 5) (nI (d + 1)) u.2.2 0 u.2.1, u.2.2)).1
      have h3 : (rms C (nI (d + 1)) n0 0 (0, pbk (nI (d + 1) - 5) (nI (d + 1)) u.2.2 0 u.2.1, u.2.2)).2.2 + 0 = u.2.2 + (rms C (nI (d + 1)) n0 0 (0, pbk (nI (d + 1) - 5) (nI (d + 1)) u.2.2 0 u.2.1, u.2.2)).1 := h1
      omega
    have h4 : (pdsC C n0 r (d + 1) (u.1 + (pdC C n0 d u.2.1 u.2.2).1, (pdC C n0 d u.2.1 u.2.2).2)).2.2 + (u.1 + (pdC C n0 d u.2.1 u.2.2).1) = (pdC C n0 d u.2.1 u.2.2).2.2 + (pdsC C n0 r (d + 1) (u.1 + (pdC C n0 d u.2.1 u.2.2).1, (pdC C n0 d u.2.1 u.2.2).2)).1 := h2
    show (pdsC C n0 r (d + 1) (u.1 + (pdC C n0 d u.2.1 u.2.2).1, (pdC C n0 d u.2.1 u.2.2).2)).2.2 + u.1 = u.2.2 + (pdsC C n0 r (d + 1) (u.1 + (pdC C n0 d u.2.1 u.2.2).1, (pdC C n0 d u.2.1 u.2.2).2)).1
    omega
/-- a reminder that is due is posted -/
theorem rms_ge {C : Nat → Nat → Int32} {t : Int32} : ∀ {r c : Nat} {u : RM}, u.1 ≤ (rms C t r c u).1
  | 0, _, _ => Nat.le_refl _
  | r + 1, c, u => by
    have h2 := rms_ge (C := C) (t := t) (r := r) (c := c + 1) (u := rmst C t c u)
    have h3 : u.1 ≤ (rmst C t c u).1 := by unfold rmst; split <;> simp
    show u.1 ≤ (rms C t r (c + 1) (rmst C t c u)).1
    omega
theorem fnd_mad {M : Nat → Nat → Int32} {n : Nat} {q key kd cs ct t st x : Int32} (h : fnd (M 1) x n 0 = none) (hx : key ≠ x) : fnd (mad2 M n q key kd cs ct t st 1) x (n + 1) 0 = none := by
  refine fnd_no (fun z _ hz => ?_)
  by_cases hzn : z = n
  · rw [hzn, mad_at2.1]; exact hx
  · rw [mad_o 1 z hzn]; exact fnd_none h z (Nat.zero_le _) (by omega)
theorem rmst_may {C : Nat → Nat → Int32} {n0 : Nat} (hK : ∀ c, c < n0 → ∃ L : Nat, L ≤ 3 ∧ C 2 c = nI L) (h0 : n0 ≤ 8) {t : Int32} {c i : Nat} (hc : c < n0) (hi : i < n0) (hne : c ≠ i) {u : RM} (h : may C u.2.1 u.2.2 i) : may C (rmst C t c u).2.1 (rmst C t c u).2.2 i := by
  unfold rmst
  by_cases h1 : u.2.2 < 80 ∧ may C u.2.1 u.2.2 c ∧ rfr C c ≤ t
  · rw [if_pos h1]
    refine ⟨h.1, fnd_mad (q := 0) (key := 1000 + 10 * nI c + C 2 c) (kd := 114) (cs := nI c) (ct := C 2 c) (t := t) (st := 119) h.2 ?_⟩
    obtain ⟨L, l1, l2⟩ := hK c hc
    obtain ⟨L', l3, l4⟩ := hK i hi
    rw [l2, l4, key_eq, key_eq]
    intro h9
    have := nI_inj (a := 1000 + 10 * c + L) (b := 1000 + 10 * i + L') (by omega) (by omega) h9
    omega
  · rw [if_neg h1]; exact h
theorem rmst_n2 {C : Nat → Nat → Int32} {t : Int32} {c : Nat} {u : RM} : (rmst C t c u).2.2 ≤ u.2.2 + 1 ∧ u.1 ≤ (rmst C t c u).1 := by
  unfold rmst; split
  · exact ⟨Nat.le_refl _, Nat.le_succ _⟩
  · exact ⟨Nat.le_succ _, Nat.le_refl _⟩
theorem rms_due {C : Nat → Nat → Int32} {n0 : Nat} (hK : ∀ c, c < n0 → ∃ L : Nat, L ≤ 3 ∧ C 2 c = nI L) (h0 : n0 ≤ 8) {t : Int32} {i : Nat} (hi : i < n0) (hf : rfr C i ≤ t) : ∀ {r c : Nat} {u : RM}, c ≤ i → i < c + r → c + r ≤ n0 → u.2.2 + (i - c) < 80 → may C u.2.1 u.2.2 i → u.1 < (rms C t r c u).1
  | 0, c, u, h1, h2, _, _, _ => by omega
  | r + 1, c, u, h1, h2, h3, h4, h5 => by
    show u.1 < (rms C t r (c + 1) (rmst C t c u)).1
    by_cases hci : c = i
    · subst hci
      have h6 : rmst C t c u = (u.1 + 1, mad2 u.2.1 u.2.2 0 (1000 + 10 * nI c + C 2 c) 114 (nI c) (C 2 c) t 119, u.2.2 + 1) := if_pos ⟨by omega, h5, hf⟩
      have h7 := rms_ge (C := C) (t := t) (r := r) (c := c + 1) (u := rmst C t c u)
      have h8 : (rmst C t c u).1 = u.1 + 1 := by rw [h6]
      omega
    · have h6 := rmst_may hK h0 (t := t) (c := c) (by omega) hi hci h5
      have h9 := rmst_n2 (C := C) (t := t) (c := c) (u := u)
      have h8 := rms_due hK h0 hi hf (r := r) (c := c + 1) (u := rmst C t c u) (by omega) (by omega) (by omega) (by omega) h6
      omega
end
