/-! more of the class's rows: tries of the dead, ready days, clerks, keys, the reminders of the letters that were sent -/
def okq (M : Nat → Nat → Int32) (z : Nat) : Prop :=
  (M 5 z = 120 → M 7 z = 3) ∧ (M 5 z = 119 → 0 ≤ M 6 z) ∧ (M 5 z = 116 → ∃ u : Nat, u < 4 ∧ M 8 z = nI u) ∧
  ((M 2 z ≠ 114 ∧ ∃ y : Nat, y < 1000 ∧ M 1 z = nI y) ∨ (M 2 z = 114 ∧ ∃ c t : Nat, c < 8 ∧ t < 3 ∧ M 1 z = nI (1000 + 10 * c + t) ∧ M 3 z = nI c ∧ M 4 z = nI t))
def yK (C : Nat → Nat → Int32) (n0 : Nat) (M : Nat → Nat → Int32) (n1 : Nat) : Prop :=
  (∀ z, z < n1 → okq M z) ∧ (∀ i j, i < n1 → j < n1 → M 1 i = M 1 j → i = j) ∧
  (∀ c, c < n0 → ∃ L : Nat, L ≤ 3 ∧ C 2 c = nI L ∧ ∀ t, t < L → ∃ q, q < n1 ∧ M 1 q = nI (1000 + 10 * c + t) ∧ M 5 q = 100 ∧ M 2 q = 114)
theorem nI_mul (a b : Nat) : nI a * nI b = nI (a * b) := by
  show Int32.ofNat a * Int32.ofNat b = Int32.ofNat (a * b)
  first | exact (Int32.ofNat_mul a b).symm | simp
theorem fnd_none {ks : Nat → Int32} {key : Int32} : ∀ {r i : Nat}, fnd ks key r i = none → ∀ z, i ≤ z → z < i + r → ks z ≠ key
  | 0, _, _ => fun z h1 h2 => by omega
  | r + 1, i, h => by
    by_cases hk : ks i = key
    · have h1 : fnd ks key (r + 1) i = some i := if_pos hk
      rw [h1] at h; cases h
    · have h1 : fnd ks key (r + 1) i = fnd ks key r (i + 1) := if_neg hk
      rw [h1] at h
      intro z h2 h3
      by_cases hz : z = i
      · rw [hz]; exact hk
      · exact fnd_none h z (by omega) (by omega)
theorem fnd_no {ks : Nat → Int32} {key : Int32} : ∀ {r i : Nat}, (∀ z, i ≤ z → z < i + r → ks z ≠ key) → fnd ks key r i = none
  | 0, _, _ => rfl
  | r + 1, i, h => by
    have h1 : fnd ks key (r + 1) i = fnd ks key r (i + 1) := if_neg (h i (Nat.le_refl _) (by omega))
    rw [h1]
    exact fnd_no (fun z h2 h3 => h z (by omega) (by omega))
theorem fnd_at {ks : Nat → Int32} {key : Int32} {n q : Nat} (hu : ∀ i j, i < n → j < n → ks i = ks j → i = j) (hq : q < n) (hk : ks q = key) : fnd ks key n 0 = some q := by
  cases hf : fnd ks key n 0 with
  | none => exact absurd hk (fnd_none hf q (Nat.zero_le _) (by omega))
  | some j =>
    obtain ⟨h1, h2, h3⟩ := fnd_lt hf
    rw [hu j q (by omega) hq (h3.trans hk.symm)]
section
variable {C : Nat → Nat → Int32} {n0 : Nat} {M : Nat → Nat → Int32} {ds n1 d : Nat}
theorem okq_cg {M' : Nat → Nat → Int32} {z : Nat} (h : ∀ a, a ≠ 10 → M' a z = M a z) (ho : okq M z) : okq M' z := by
  unfold okq at ho ⊢
  rw [h 5 (by decide), h 7 (by decide), h 6 (by decide), h 8 (by decide), h 2 (by decide), h 1 (by decide), h 3 (by decide), h 4 (by decide)]
  exact ho
/-- one message's rows 5 to 9 change, and it wasn't done -/
theorem yK_ch {M' : Nat → Nat → Int32} (h : yK C n0 M n1) {i : Nat} (r1 : M' 1 = M 1) (r2 : M' 2 = M 2) (ho : ∀ a z, z ≠ i → M' a z = M a z) (h5 : M 5 i ≠ 100) (ok : okq M' i) : yK C n0 M' n1 := by
  obtain ⟨a1, a2, a3⟩ := h
  refine ⟨fun z hz => ?_, fun i j hi hj => by rw [r1]; exact a2 i j hi hj, fun c hc => ?_⟩
  · by_cases hzi : z = i
    · rw [hzi]; exact ok
    · exact okq_cg (fun a _ => ho a z hzi) (a1 z hz)
  · obtain ⟨L, b1, b2, b3⟩ := a3 c hc
    refine ⟨L, b1, b2, fun t ht => ?_⟩
    obtain ⟨q, c1, c2, c3, c4⟩ := b3 t ht
    refine ⟨q, c1, by rw [r1]; exact c2, ?_, by rw [r2]; exact c4⟩
    rw [ho 5 q (fun hq => h5 (by rw [← hq]; exact c3))]
    exact c3
theorem okq_k {z : Nat} (h : okq M z) : (M 2 z ≠ 114 ∧ ∃ y : Nat, y < 1000 ∧ M 1 z = nI y) ∨ (M 2 z = 114 ∧ ∃ c t : Nat, c < 8 ∧ t < 3 ∧ M 1 z = nI (1000 + 10 * c + t) ∧ M 3 z = nI c ∧ M 4 z = nI t) := h.2.2.2
theorem yK_rst (h : yK C n0 M n1) {cs : Int32} {i d : Nat} (hd : d ≤ 999) (hi : i < n1) : yK C n0 (rst cs (nI d) i M) n1 := by
  unfold rst
  by_cases h1 : M 5 i = 104 ∧ M 3 i = cs
  · rw [if_pos h1]
    have ho : ∀ a z, z ≠ i → w2 (w2 M 5 i 119) 6 i (mx (M 6 i) (nI d)) a z = M a z := fun a z hz => by rw [w2_o a z hz, w2_o a z hz]
    have e5 : w2 (w2 M 5 i 119) 6 i (mx (M 6 i) (nI d)) 5 i = 119 := by rw [w2_x (by omega), w2_s]
    have e6 : w2 (w2 M 5 i 119) 6 i (mx (M 6 i) (nI d)) 6 i = mx (M 6 i) (nI d) := w2_s
    refine yK_ch h rfl rfl ho (by rw [h1.1]; decide) ⟨fun h9 => ?_, fun _ => ?_, fun h9 => ?_, okq_k (M := M) (h.1 i hi)⟩
    · rw [e5] at h9; exact absurd h9 (by decide)
    · rw [e6, Int32.le_iff_toInt_le, mx_toInt, nI_toInt (by omega), show (0 : Int32).toInt = 0 from rfl]; omega
    · rw [e5] at h9; exact absurd h9 (by decide)
  · rw [if_neg h1]; exact h
theorem yK_rel {cs : Int32} {d : Nat} (hd : d ≤ 999) : ∀ {r i : Nat} {M : Nat → Nat → Int32}, yK C n0 M n1 → i + r ≤ n1 → yK C n0 (rel cs (nI d) r i M) n1
  | 0, _, _, h, _ => h
  | r + 1, i, _, h, hi => yK_rel hd (r := r) (i := i + 1) (yK_rst h hd (by omega)) (by omega)
theorem yK_wk (h : yK C n0 M n1) {i d : Nat} (hd : d ≤ 999) (hi : i < n1) (h5 : M 5 i = 120) : yK C n0 (wk M i (nI d)) n1 := by
  have ho : ∀ a z, z ≠ i → wk M i (nI d) a z = M a z := fun a z hz => by unfold wk; rw [w2_o a z hz, w2_o a z hz, w2_o a z hz]
  have e5 : wk M i (nI d) 5 i = 119 := by unfold wk; rw [w2_x (by omega), w2_x (by omega), w2_s]
  have e6 : wk M i (nI d) 6 i = nI d := by unfold wk; rw [w2_x (by omega), w2_s]
  refine yK_ch h rfl rfl ho (by rw [h5]; decide) ⟨fun h9 => ?_, fun _ => ?_, fun h9 => ?_, okq_k (M := M) (h.1 i hi)⟩
  · rw [e5] at h9; exact absurd h9 (by decide)
  · rw [e6]; exact nI_ge0 (by omega)
  · rw [e5] at h9; exact absurd h9 (by decide)
theorem yK_pb (hI : yI C n0 M ds n1 d) (h : yK C n0 M n1) {i t : Nat} (ht : t ≤ 999) (hi : i < n1) (h5 : M 5 i = 116) : yK C n0 (pb M i (nI t)) n1 := by
  have h7 := (yI_ok hI i hi).2.2.2.2.1 (by rw [h5]; decide)
  unfold pb
  by_cases h1 : M 7 i + 1 < 3
  · rw [if_pos h1]
    have ho : ∀ a z, z ≠ i → w2 (w2 (w2 M 7 i (M 7 i + 1)) 5 i 119) 6 i (nI t + 2 * (M 7 i + 1)) a z = M a z := fun a z hz => by rw [w2_o a z hz, w2_o a z hz, w2_o a z hz]
    have e5 : w2 (w2 (w2 M 7 i (M 7 i + 1)) 5 i 119) 6 i (nI t + 2 * (M 7 i + 1)) 5 i = 119 := by rw [w2_x (by omega), w2_s]
    have e6 : w2 (w2 (w2 M 7 i (M 7 i + 1)) 5 i 119) 6 i (nI t + 2 * (M 7 i + 1)) 6 i = nI t + 2 * (M 7 i + 1) := w2_s
    refine yK_ch h rfl rfl ho (by rw [h5]; decide) ⟨fun h9 => ?_, fun _ => ?_, fun h9 => ?_, okq_k (M := M) (h.1 i hi)⟩
    · rw [e5] at h9; exact absurd h9 (by decide)
    · rw [e6]
      rcases h7 with h7 | h7 | h7
      · rw [h7, show (2 : Int32) * (0 + 1) = nI 2 by decide, nI_add]; exact nI_ge0 (by omega)
      · rw [h7, show (2 : Int32) * (1 + 1) = nI 4 by decide, nI_add]; exact nI_ge0 (by omega)
      · rw [h7] at h1; exact absurd h1 (by decide)
    · rw [e5] at h9; exact absurd h9 (by decide)
  · rw [if_neg h1]
    have ho : ∀ a z, z ≠ i → w2 (w2 M 7 i (M 7 i + 1)) 5 i 120 a z = M a z := fun a z hz => by rw [w2_o a z hz, w2_o a z hz]
    have e5 : w2 (w2 M 7 i (M 7 i + 1)) 5 i 120 5 i = 120 := by rw [w2_s]
    have e7 : w2 (w2 M 7 i (M 7 i + 1)) 5 i 120 7 i = M 7 i + 1 := by rw [w2_x (by omega), w2_s]
    refine yK_ch h rfl rfl ho (by rw [h5]; decide) ⟨fun _ => ?_, fun h9 => ?_, fun h9 => ?_, okq_k (M := M) (h.1 i hi)⟩
    · rw [e7]
      rcases h7 with h7 | h7 | h7
      · rw [h7] at h1; exact absurd (by decide) h1
      · rw [h7] at h1; exact absurd (by decide) h1
      · rw [h7]; decide
    · rw [e5] at h9; exact absurd h9 (by decide)
    · rw [e5] at h9; exact absurd h9 (by decide)
theorem yK_tk3 (h : yK C n0 M n1) {u j : Nat} {t : Int32} (hj : j < n1) (h5 : M 5 j = 119) (hu : u < 4) : yK C n0 (w2 (w2 (w2 M 5 j 116) 8 j (nI u)) 9 j t) n1 := by
  have ho : ∀ a z, z ≠ j → w2 (w2 (w2 M 5 j 116) 8 j (nI u)) 9 j t a z = M a z := fun a z hz => by rw [w2_o a z hz, w2_o a z hz, w2_o a z hz]
  have e5 : w2 (w2 (w2 M 5 j 116) 8 j (nI u)) 9 j t 5 j = 116 := by rw [w2_x (by omega), w2_x (by omega), w2_s]
  have e8 : w2 (w2 (w2 M 5 j 116) 8 j (nI u)) 9 j t 8 j = nI u := by rw [w2_x (by omega), w2_s]
  refine yK_ch h rfl rfl ho (by rw [h5]; decide) ⟨fun h9 => ?_, fun h9 => ?_, fun _ => ⟨u, hu, e8⟩, okq_k (M := M) (h.1 j hj)⟩
  · rw [e5] at h9; exact absurd h9 (by decide)
  · rw [e5] at h9; exact absurd h9 (by decide)
theorem mad_at2 {n : Nat} {q key kd cs ct t st : Int32} : mad2 M n q key kd cs ct t st 1 n = key ∧ mad2 M n q key kd cs ct t st 6 n = t := by
  unfold mad2
  refine ⟨?_, ?_⟩
  · rw [w2_x (by omega), w2_x (by omega), w2_x (by omega), w2_x (by omega), w2_x (by omega), w2_s]
  · rw [w2_x (by omega), w2_s]
theorem yK_add (h : yK C n0 M n1) {q key kd cs ct t st : Int32} (hs : st = 119 ∨ st = 104) (ht : 0 ≤ t) (hf : fnd (M 1) key n1 0 = none) (hk : (kd ≠ 114 ∧ ∃ y : Nat, y < 1000 ∧ key = nI y) ∨ (kd = 114 ∧ ∃ c t : Nat, c < 8 ∧ t < 3 ∧ key = nI (1000 + 10 * c + t) ∧ cs = nI c ∧ ct = nI t)) : yK C n0 (mad2 M n1 q key kd cs ct t st) (n1 + 1) := by
  obtain ⟨a1, a2, a3⟩ := h
  have ho : ∀ a z, z ≠ n1 → mad2 M n1 q key kd cs ct t st a z = M a z := fun a z hz => mad_o a z hz
  obtain ⟨e2, e3, e4, e5⟩ := mad_at (M := M) (n := n1) (q := q) (key := key) (kd := kd) (cs := cs) (ct := ct) (t := t) (st := st)
  obtain ⟨e1, e6⟩ := mad_at2 (M := M) (n := n1) (q := q) (key := key) (kd := kd) (cs := cs) (ct := ct) (t := t) (st := st)
  generalize mad2 M n1 q key kd cs ct t st = M' at ho e1 e2 e3 e4 e5 e6 ⊢
  have hne := fnd_none hf
  refine ⟨fun z hz => ?_, fun i j hi hj hij => ?_, fun c hc => ?_⟩
  · by_cases hzi : z = n1
    · rw [hzi]
      refine ⟨fun h9 => ?_, fun _ => by rw [e6]; exact ht, fun h9 => ?_, by rw [e1, e2, e3, e4]; exact hk⟩
      · rw [e5] at h9; rcases hs with hs | hs <;> rw [hs] at h9 <;> exact absurd h9 (by decide)
      · rw [e5] at h9; rcases hs with hs | hs <;> rw [hs] at h9 <;> exact absurd h9 (by decide)
    · exact okq_cg (fun a _ => ho a z hzi) (a1 z (by omega))
  · by_cases hi2 : i = n1
    · by_cases hj2 : j = n1
      · rw [hi2, hj2]
      · rw [hi2, e1, ho 1 j hj2] at hij
        exact absurd hij.symm (hne j (Nat.zero_le _) (by omega))
    · by_cases hj2 : j = n1
      · rw [hj2, e1, ho 1 i hi2] at hij
        exact absurd hij (hne i (Nat.zero_le _) (by omega))
      · rw [ho 1 i hi2, ho 1 j hj2] at hij
        exact a2 i j (by omega) (by omega) hij
  · obtain ⟨L, b1, b2, b3⟩ := a3 c hc
    refine ⟨L, b1, b2, fun t9 ht9 => ?_⟩
    obtain ⟨q9, c1, c2, c3, c4⟩ := b3 t9 ht9
    have hq : q9 ≠ n1 := by omega
    exact ⟨q9, by omega, by rw [ho 1 q9 hq]; exact c2, by rw [ho 5 q9 hq]; exact c3, by rw [ho 2 q9 hq]; exact c4⟩
theorem yK_C {C' : Nat → Nat → Int32} (h : yK C n0 M n1) (h2 : C' 2 = C 2) : yK C' n0 M n1 := by
  obtain ⟨a1, a2, a3⟩ := h
  exact ⟨a1, a2, by rw [h2]; exact a3⟩
theorem yK_open (h : yK C n0 M n1) {C' : Nat → Nat → Int32} (h2 : C' 2 = C 2) (h0 : C 2 n0 = 0) : yK C' (n0 + 1) M n1 := by
  obtain ⟨a1, a2, a3⟩ := h
  refine ⟨a1, a2, fun c hc => ?_⟩
  rw [h2]
  by_cases hc2 : c = n0
  · rw [hc2]; exact ⟨0, by omega, h0, fun t ht => absurd ht (Nat.not_lt_zero t)⟩
  · exact a3 c (by omega)
theorem nI_inj9 {a b : Nat} (ha : a < 2000) (hb : b < 2000) (h : nI a = nI b) : a = b := nI_inj (by omega) (by omega) h
theorem yK_fin (hI : yI C n0 M ds n1 d) (h : yK C n0 M n1) {i c : Nat} (hi : i < n1) (h5 : M 5 i = 116) (hc : c < n0) (h3 : M 3 i = nI c) : yK (fin3C i c C M).2 n0 (w2 (w2 M 5 i 100) 10 ds (nI i)) n1 := by
  have hn0 := hI.1
  have ho : ∀ a z, a ≠ 10 → z ≠ i → w2 (w2 M 5 i 100) 10 ds (nI i) a z = M a z := fun a z ha hz => by rw [w2_x (by omega), w2_o a z hz]
  have hx : ∀ a z, a ≠ 10 → a ≠ 5 → w2 (w2 M 5 i 100) 10 ds (nI i) a z = M a z := fun a z ha hz => by rw [w2_x (by omega), w2_x (by omega)]
  have e5 : w2 (w2 M 5 i 100) 10 ds (nI i) 5 i = 100 := by rw [w2_x (by omega), w2_s]
  generalize w2 (w2 M 5 i 100) 10 ds (nI i) = M' at ho hx e5 ⊢
  obtain ⟨a1, a2, a3⟩ := h
  have b1 : ∀ z, z < n1 → okq M' z := fun z hz => by
    by_cases hzi : z = i
    · rw [hzi]
      have hk := okq_k (a1 i hi)
      rw [← hx 2 i (by decide) (by decide), ← hx 1 i (by decide) (by decide), ← hx 3 i (by decide) (by decide), ← hx 4 i (by decide) (by decide)] at hk
      refine ⟨fun h9 => ?_, fun h9 => ?_, fun h9 => ?_, hk⟩ <;> (rw [e5] at h9; exact absurd h9 (by decide))
    · exact okq_cg (fun a ha => ho a z ha hzi) (a1 z hz)
  have b2 : ∀ i j, i < n1 → j < n1 → M' 1 i = M' 1 j → i = j := fun i j h1 h2 h3 => a2 i j h1 h2 (by rw [← hx 1 i (by decide) (by decide), ← hx 1 j (by decide) (by decide)]; exact h3)
  have kp : ∀ q, q < n1 → M 5 q = 100 → M' 5 q = 100 := fun q hq h9 => by
    by_cases hqi : q = i
    · rw [hqi]; exact e5
    · rw [ho 5 q (by decide) hqi]; exact h9
  have b3 : ∀ c, c < n0 → ∃ L : Nat, L ≤ 3 ∧ C 2 c = nI L ∧ ∀ t, t < L → ∃ q, q < n1 ∧ M' 1 q = nI (1000 + 10 * c + t) ∧ M' 5 q = 100 ∧ M' 2 q = 114 := fun c hc => by
    obtain ⟨L, c1, c2, c3⟩ := a3 c hc
    refine ⟨L, c1, c2, fun t ht => ?_⟩
    obtain ⟨q, d1, d2, d3, d4⟩ := c3 t ht
    exact ⟨q, d1, by rw [hx 1 q (by decide) (by decide)]; exact d2, kp q d1 d3, by rw [hx 2 q (by decide) (by decide)]; exact d4⟩
  unfold fin3C
  by_cases hp : M 2 i = 112
  · rw [if_pos hp]; exact ⟨b1, b2, b3⟩
  · rw [if_neg hp]
    by_cases hn : M 2 i = 110
    · rw [if_pos hn]; exact ⟨b1, b2, b3⟩
    · rw [if_neg hn]
      show yK (if 0 < C 0 c ∧ C 2 c = M 4 i then w2 C 2 c (C 2 c + 1) else C) n0 M' n1
      by_cases h9 : 0 < C 0 c ∧ C 2 c = M 4 i
      · rw [if_pos h9]
        have hr : M 2 i = 114 := ((yI_ok hI i hi).2.1.resolve_left hp).resolve_left hn
        rcases okq_k (a1 i hi) with h8 | h8
        · exact absurd hr h8.1
        · obtain ⟨-, c', t', f1, f2, f3, f4, f5⟩ := h8
          have ec : c' = c := nI_inj9 (by omega) (by omega) (by rw [← f4, h3])
          subst ec
          refine ⟨b1, b2, fun z hz => ?_⟩
          by_cases hzc : z = c'
          · subst hzc
            obtain ⟨L, c1, c2, c3⟩ := b3 z hz
            have eL : t' = L := nI_inj9 (by omega) (by omega) (by rw [← f5, ← h9.2, c2])
            subst eL
            refine ⟨t' + 1, by omega, by rw [w2_s, c2, nI_1], fun t ht => ?_⟩
            by_cases htt : t = t'
            · rw [htt]
              exact ⟨i, hi, by rw [hx 1 i (by decide) (by decide)]; exact f3, e5, by rw [hx 2 i (by decide) (by decide)]; exact hr⟩
            · exact c3 t (by omega)
          · rw [w2_o 2 z hzc]; exact b3 z hz
      · rw [if_neg h9]; exact ⟨b1, b2, b3⟩
theorem yK_pst (hI : yI C n0 M ds n1 d) (h : yK C n0 M n1) {i t : Nat} {la : Int32} (ht : t ≤ 999) (hi : i < n1) : yK C n0 (pst la (nI t) i M) n1 := by
  unfold pst
  by_cases h1 : M 5 i = 116 ∧ M 9 i ≤ la
  · rw [if_pos h1]; exact yK_pb hI h ht hi h1.1
  · rw [if_neg h1]; exact h
theorem yK_pbk {la : Int32} {t : Nat} (ht : t ≤ 999) : ∀ {r i : Nat} {M : Nat → Nat → Int32}, yI C n0 M ds n1 d → yK C n0 M n1 → i + r ≤ n1 → yI C n0 (pbk la (nI t) r i M) ds n1 d ∧ yK C n0 (pbk la (nI t) r i M) n1
  | 0, _, _, hI, h, _ => ⟨hI, h⟩
  | r + 1, i, _, hI, h, hi => yK_pbk ht (r := r) (i := i + 1) (yI_pst hI (by omega)) (yK_pst hI h ht (by omega)) (by omega)
theorem yK_rmst {u : RM} {t c : Nat} (ht : t ≤ 999) (hI : yI C n0 u.2.1 ds u.2.2 d) (h : yK C n0 u.2.1 u.2.2) (hc : c < n0) : yK C n0 (rmst C (nI t) c u).2.1 (rmst C (nI t) c u).2.2 := by
  have hn0 := hI.1
  unfold rmst
  by_cases h1 : u.2.2 < 80 ∧ may C u.2.1 u.2.2 c ∧ rfr C c ≤ nI t
  · rw [if_pos h1]
    obtain ⟨L, c1, c2, c3⟩ := h.2.2 c hc
    have hL : L < 3 := by
      have h9 := h1.2.1.1.2.2
      rw [c2, show (3 : Int32) = nI 3 from rfl] at h9
      exact (yn_lt (by omega) (by omega)).mp h9
    have ek : (1000 : Int32) + 10 * nI c + C 2 c = nI (1000 + 10 * c + L) := by
      rw [c2, show (10 : Int32) * nI c = nI (10 * c) from (by rw [show (10 : Int32) = nI 10 from rfl]; exact nI_mul 10 c), show (1000 : Int32) = nI 1000 from rfl, nI_add, nI_add]
    exact yK_add h (Or.inl rfl) (nI_ge0 (by omega)) h1.2.1.2 (Or.inr ⟨rfl, c, L, by omega, hL, ek, rfl, c2⟩)
  · rw [if_neg h1]; exact h
theorem yK_rms {t : Nat} (ht : t ≤ 999) : ∀ {r c : Nat} {u : RM}, yI C n0 u.2.1 ds u.2.2 d → yK C n0 u.2.1 u.2.2 → c + r ≤ n0 → yK C n0 (rms C (nI t) r c u).2.1 (rms C (nI t) r c u).2.2
  | 0, _, _, _, h, _ => h
  | r + 1, c, u, hI, h, hc => yK_rms ht (r := r) (c := c + 1) (yI_rmst hI (by omega)) (yK_rmst ht hI h (by omega)) (by omega)
theorem yR_rf (M : Nat → Nat → Int32) : yRel M M := ⟨rfl, rfl, rfl, rfl, rfl, rfl, rfl, rfl, rfl, fun _ _ => rfl⟩
theorem yK_day1 (hI : yI C n0 M ds n1 d) (h : yK C n0 M n1) (hd : d + 1 ≤ 999) : yI C n0 (pdC C n0 d M n1).2.1 ds (pdC C n0 d M n1).2.2 (d + 1) ∧ yK C n0 (pdC C n0 d M n1).2.1 (pdC C n0 d M n1).2.2 := by
  obtain ⟨h2, h3⟩ := yK_pbk (la := nI (d + 1) - 5) (t := d + 1) hd (r := n1) (i := 0) (yI_day hI (Nat.le_succ d) hd) h (by omega)
  exact ⟨yI_rms (t := nI (d + 1)) (r := n0) (c := 0) (u := (0, pbk (nI (d + 1) - 5) (nI (d + 1)) n1 0 M, n1)) h2 (by omega), yK_rms hd (r := n0) (c := 0) (u := (0, pbk (nI (d + 1) - 5) (nI (d + 1)) n1 0 M, n1)) h2 h3 (by omega)⟩
theorem yK_days : ∀ {r d p n1 : Nat} {M : Nat → Nat → Int32}, yI C n0 M ds n1 d → yK C n0 M n1 → d + r ≤ 999 → yI C n0 (pdsC C n0 r d (p, M, n1)).2.1 ds (pdsC C n0 r d (p, M, n1)).2.2 (d + r) ∧ yK C n0 (pdsC C n0 r d (p, M, n1)).2.1 (pdsC C n0 r d (p, M, n1)).2.2
  | 0, d, p, n1, M, hI, h, _ => ⟨hI, h⟩
  | r + 1, d, p, n1, M, hI, h, hd => by
    obtain ⟨h1, h2⟩ := yK_day1 hI h (by omega)
    have h3 := yK_days (r := r) (d := d + 1) (p := p + (pdC C n0 d M n1).1) h1 h2 (by omega)
    rw [show d + (r + 1) = d + 1 + r by omega]
    exact h3
end
