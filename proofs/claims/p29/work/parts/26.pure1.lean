/-! class and check side by side: counting, the order of the ready messages -/
theorem w2_ap {M : Nat → Nat → Int32} {k i a z : Nat} {x : Int32} : w2 M k i x a z = if a = k ∧ z = i then x else M a z := by
  unfold w2 upd
  by_cases h : a = k
  · subst h; by_cases h2 : z = i <;> simp [h2]
  · simp [h]
theorem cnt_a (q : Nat → Bool) : ∀ r i a : Nat, cnt q r i a = cnt q r i 0 + a
  | 0, _, a => (Nat.zero_add a).symm
  | r + 1, i, a => by
    cases h : q i with
    | true => rw [cnt_t h, cnt_t h, cnt_a q r (i + 1) (a + 1), cnt_a q r (i + 1) (0 + 1)]; omega
    | false => rw [cnt_f h, cnt_f h, cnt_a q r (i + 1) a]
theorem cnt_s (q : Nat → Bool) (r i : Nat) : cnt q (r + 1) i 0 = cnt q r (i + 1) 0 + (q i).toNat := by
  cases h : q i with
  | true => rw [cnt_t h, cnt_a]; rfl
  | false => rw [cnt_f h]; rfl
theorem cnt_top (q : Nat → Bool) : ∀ r i : Nat, cnt q (r + 1) i 0 = cnt q r i 0 + (q (i + r)).toNat
  | 0, i => by rw [cnt_s]; rfl
  | r + 1, i => by rw [cnt_s, cnt_top q r (i + 1), cnt_s q r i]; rw [show i + 1 + r = i + (r + 1) by omega]; omega
theorem cnt_cg {p q : Nat → Bool} : ∀ {r i a : Nat}, (∀ z, i ≤ z → z < i + r → p z = q z) → cnt p r i a = cnt q r i a
  | 0, _, _, _ => rfl
  | r + 1, i, a, h => by
    have h0 := h i (Nat.le_refl _) (by omega)
    have h1 : ∀ b, cnt p r (i + 1) b = cnt q r (i + 1) b := fun b => cnt_cg (fun z h1 h2 => h z (by omega) (by omega))
    cases hq : q i with
    | true => rw [cnt_t hq, cnt_t (h0.trans hq), h1]
    | false => rw [cnt_f hq, cnt_f (h0.trans hq), h1]
theorem cnt_addN {p q s : Nat → Bool} : ∀ r i : Nat, (∀ z, z < i + r → (p z).toNat = (q z).toNat + (s z).toNat) → cnt p r i 0 = cnt q r i 0 + cnt s r i 0
  | 0, _, _ => rfl
  | r + 1, i, h => by rw [cnt_s, cnt_s, cnt_s, cnt_addN r (i + 1) (fun z hz => h z (by omega)), h i (by omega)]; omega
theorem cnt_add {p q s : Nat → Bool} (h : ∀ z, (p z).toNat = (q z).toNat + (s z).toNat) (r i : Nat) : cnt p r i 0 = cnt q r i 0 + cnt s r i 0 := cnt_addN r i (fun z _ => h z)
theorem cnt_le2 {p q : Nat → Bool} (h : ∀ z, p z = true → q z = true) : ∀ r i : Nat, cnt p r i 0 ≤ cnt q r i 0
  | 0, _ => Nat.le_refl _
  | r + 1, i => by
    rw [cnt_s, cnt_s]
    have h1 := cnt_le2 h r (i + 1)
    have h2 : (p i).toNat ≤ (q i).toNat := by
      cases hp : p i with
      | true => rw [h i hp]; exact Nat.le_refl _
      | false => exact Nat.zero_le _
    omega
theorem cnt_0 {q : Nat → Bool} : ∀ {r i : Nat}, (∀ z, i ≤ z → z < i + r → q z = false) → cnt q r i 0 = 0
  | 0, _, _ => rfl
  | r + 1, i, h => by rw [cnt_s, cnt_0 (fun z h1 h2 => h z (by omega) (by omega)), h i (Nat.le_refl _) (by omega)]; rfl
theorem cnt_ex {q : Nat → Bool} : ∀ {r i : Nat}, 0 < cnt q r i 0 → ∃ z, i ≤ z ∧ z < i + r ∧ q z = true
  | 0, _, h => absurd h (Nat.lt_irrefl 0)
  | r + 1, i, h => by
    cases hq : q i with
    | true => exact ⟨i, Nat.le_refl _, by omega, hq⟩
    | false =>
      rw [cnt_s, hq] at h
      obtain ⟨z, h1, h2, h3⟩ := cnt_ex (r := r) (i := i + 1) h
      exact ⟨z, by omega, by omega, h3⟩
theorem cnt_pos {q : Nat → Bool} : ∀ {r i z : Nat}, i ≤ z → z < i + r → q z = true → 0 < cnt q r i 0
  | 0, i, z, h1, h2, _ => by omega
  | r + 1, i, z, h1, h2, h3 => by
    rw [cnt_s]
    by_cases h : z = i
    · rw [← h, h3]; exact Nat.succ_pos _
    · have := cnt_pos (r := r) (i := i + 1) (z := z) (by omega) (by omega) h3
      omega
theorem cnt_one {j : Nat} : ∀ {r i : Nat}, i ≤ j → j < i + r → cnt (fun z => decide (z = j)) r i 0 = 1
  | 0, i, h1, h2 => by omega
  | r + 1, i, h1, h2 => by
    rw [cnt_s]
    by_cases h : i = j
    · rw [cnt_0 (fun z h3 h4 => decide_eq_false (by omega)), decide_eq_true h]; rfl
    · rw [cnt_one (r := r) (i := i + 1) (by omega) (by omega), decide_eq_false h]; rfl
theorem cnt_all {q : Nat → Bool} {n j : Nat} (hj : j < n) (h : q j = false) : cnt q n 0 0 < n := by
  have h1 := cnt_add (p := fun z => q z || decide (z = j)) (q := q) (s := fun z => decide (z = j)) (fun z => by
    by_cases hz : z = j
    · subst hz; simp [h]
    · simp [hz]) n 0
  rw [cnt_one (Nat.zero_le _) (by omega)] at h1
  have h2 := cnt_le (fun z => q z || decide (z = j)) n 0 0
  omega
section
variable {M : Nat → Nat → Int32}
theorem gb_tr {i j k : Nat} (h : gb M i j) (h2 : gb M j k) : gb M i k := by
  rcases h with h | ⟨h, h'⟩ <;> rcases h2 with h2 | ⟨h2, h2'⟩
  · exact Or.inl (Int32.lt_trans h h2)
  · exact Or.inl (by rw [← h2]; exact h)
  · exact Or.inl (by rw [h]; exact h2)
  · exact Or.inr ⟨h.trans h2, by omega⟩
theorem gb_ir {i : Nat} : ¬ gb M i i := by
  rintro (h | h)
  · exact Int32.lt_irrefl h
  · exact Nat.lt_irrefl _ h.2
theorem gb_tot {i j : Nat} (h : i ≠ j) : gb M i j ∨ gb M j i := by
  rcases Int.lt_trichotomy (M 6 i).toInt (M 6 j).toInt with h1 | h1 | h1
  · exact Or.inl (Or.inl (Int32.lt_iff_toInt_lt.mpr h1))
  · have h2 := Int32.toInt_inj.mp h1
    rcases Nat.lt_or_gt_of_ne h with h3 | h3
    · exact Or.inl (Or.inr ⟨h2, h3⟩)
    · exact Or.inr (Or.inr ⟨h2.symm, h3⟩)
  · exact Or.inr (Or.inl (Int32.lt_iff_toInt_lt.mpr h1))
/-- the candidates after pv -/
def cnd (M : Nat → Nat → Int32) (q t : Int32) (pv : Option Nat) (z : Nat) : Prop := rdy M q t z ∧ ∀ k, pv = some k → gb M k z
def mnP (M : Nat → Nat → Int32) (P : Nat → Prop) (i : Nat) : Option Nat → Prop
  | none => ∀ z, z < i → ¬ P z
  | some j => j < i ∧ P j ∧ ∀ z, z < i → P z → z = j ∨ gb M j z
theorem nst2_mn {P : Nat → Prop} {i : Nat} {o : Option Nat} (hi : P i) (h : mnP M P i o) : mnP M P (i + 1) (nst2 M i o) := by
  cases o with
  | none =>
    refine ⟨Nat.lt_succ_self i, hi, fun z hz hp => ?_⟩
    by_cases h2 : z = i
    · exact Or.inl h2
    · exact absurd hp (h z (by omega))
  | some j =>
    obtain ⟨h1, h2, h3⟩ := h
    by_cases hg : gb M i j
    · rw [nst2_s hg]
      refine ⟨Nat.lt_succ_self i, hi, fun z hz hp => ?_⟩
      by_cases h4 : z = i
      · exact Or.inl h4
      · rcases h3 z (by omega) hp with h5 | h5
        · rw [h5]; exact Or.inr hg
        · exact Or.inr (gb_tr hg h5)
    · rw [nst2_k hg]
      refine ⟨by omega, h2, fun z hz hp => ?_⟩
      by_cases h4 : z = i
      · subst h4
        rcases gb_tot (M := M) (i := z) (j := j) (by omega) with h5 | h5
        · exact absurd h5 hg
        · exact Or.inr h5
      · exact h3 z (by omega) hp
theorem mn_no {P : Nat → Prop} {i : Nat} {o : Option Nat} (hi : ¬ P i) (h : mnP M P i o) : mnP M P (i + 1) o := by
  cases o with
  | none =>
    intro z hz hp
    by_cases h2 : z = i
    · subst h2; exact hi hp
    · exact h z (by omega) hp
  | some j =>
    obtain ⟨h1, h2, h3⟩ := h
    refine ⟨by omega, h2, fun z hz hp => ?_⟩
    by_cases h4 : z = i
    · subst h4; exact absurd hp hi
    · exact h3 z (by omega) hp
theorem nst_mn {q t : Int32} {pv : Option Nat} {i : Nat} {o : Option Nat} (h : mnP M (cnd M q t pv) i o) : mnP M (cnd M q t pv) (i + 1) (nst M q t i o pv) := by
  by_cases hr : rdy M q t i
  · cases pv with
    | none => rw [nst_n hr]; exact nst2_mn ⟨hr, fun k hk => nomatch hk⟩ h
    | some k =>
      by_cases hg : gb M k i
      · rw [nst_s hr hg]; exact nst2_mn ⟨hr, fun k' hk => by cases hk; exact hg⟩ h
      · rw [nst_k hr hg]; exact mn_no (fun hp => hg (hp.2 k rfl)) h
  · rw [nst_r hr]; exact mn_no (fun hp => hr hp.1) h
theorem nxt_mn {q t : Int32} {pv : Option Nat} : ∀ {r i : Nat} {o : Option Nat}, mnP M (cnd M q t pv) i o → mnP M (cnd M q t pv) (i + r) (nxt M q t pv r i o)
  | 0, _, _, h => h
  | r + 1, i, o, h => by
    have h1 := nxt_mn (r := r) (nst_mn h)
    rw [show i + (r + 1) = i + 1 + r by omega]
    exact h1
theorem nxt_0 {q t : Int32} {pv : Option Nat} {n : Nat} : mnP M (cnd M q t pv) n (nxt M q t pv n 0 none) := by
  have := nxt_mn (M := M) (q := q) (t := t) (pv := pv) (r := n) (i := 0) (o := none) (fun z hz => absurd hz (Nat.not_lt_zero z))
  rwa [Nat.zero_add] at this
abbrev crd (M : Nat → Nat → Int32) (q t : Int32) (n : Nat) : Nat := cnt (fun z => decide (rdy M q t z)) n 0 0
theorem bool3 {A B D : Prop} [Decidable A] [Decidable B] [Decidable D] (h1 : A ↔ B ∨ D) (h2 : ¬ (B ∧ D)) : (decide A).toNat = (decide B).toNat + (decide D).toNat := by
  by_cases hb : B <;> by_cases hd : D
  · exact absurd ⟨hb, hd⟩ h2
  · rw [decide_eq_true hb, decide_eq_false hd, decide_eq_true (h1.mpr (Or.inl hb))]; rfl
  · rw [decide_eq_false hb, decide_eq_true hd, decide_eq_true (h1.mpr (Or.inr hd))]; rfl
  · rw [decide_eq_false hb, decide_eq_false hd, decide_eq_false (fun h => (h1.mp h).elim hb hd)]; rfl
/-- the ready ones: those before j, j, and those behind -/
theorem ahd_split {q t : Int32} {n j : Nat} (hj : j < n) (hr : rdy M q t j) : crd M q t n = ahd M q t n j + 1 + cnt (fun z => decide (rdy M q t z ∧ gb M j z)) n 0 0 := by
  have h1 := cnt_add (p := fun z => decide (rdy M q t z)) (q := fun z => decide (rdy M q t z ∧ (gb M z j ∨ z = j))) (s := fun z => decide (rdy M q t z ∧ gb M j z)) (fun z => bool3 ⟨fun h => by
      by_cases hz : z = j
      · exact Or.inl ⟨h, Or.inr hz⟩
      · rcases gb_tot (M := M) hz with h2 | h2
        · exact Or.inl ⟨h, Or.inl h2⟩
        · exact Or.inr ⟨h, h2⟩, fun h => h.elim (fun h => h.1) (fun h => h.1)⟩ (fun ⟨⟨_, h1⟩, _, h2⟩ => by
      rcases h1 with h1 | h1
      · exact gb_ir (gb_tr h1 h2)
      · subst h1; exact gb_ir h2)) n 0
  have h2 := cnt_add (p := fun z => decide (rdy M q t z ∧ (gb M z j ∨ z = j))) (q := fun z => decide (rdy M q t z ∧ gb M z j)) (s := fun z => decide (z = j)) (fun z => bool3 ⟨fun h => h.2.elim (fun h2 => Or.inl ⟨h.1, h2⟩) Or.inr, fun h => h.elim (fun h => ⟨h.1, Or.inl h.2⟩) (fun h => by subst h; exact ⟨hr, Or.inr rfl⟩)⟩ (fun ⟨⟨_, h1⟩, h2⟩ => by subst h2; exact gb_ir h1)) n 0
  rw [cnt_one (Nat.zero_le _) (by omega)] at h2
  unfold crd ahd
  omega
theorem ahd_lt {q t : Int32} {n j : Nat} (hj : j < n) (hr : rdy M q t j) : ahd M q t n j < crd M q t n := by
  have := ahd_split hj hr; omega
theorem ahd_mono {q t : Int32} {n i j : Nat} (hi : i < n) (hr : rdy M q t i) (hg : gb M i j) : ahd M q t n i < ahd M q t n j := by
  have h1 := cnt_add (p := fun z => decide (rdy M q t z ∧ (gb M z i ∨ z = i))) (q := fun z => decide (rdy M q t z ∧ gb M z i)) (s := fun z => decide (z = i)) (fun z => bool3 ⟨fun h => h.2.elim (fun h2 => Or.inl ⟨h.1, h2⟩) Or.inr, fun h => h.elim (fun h => ⟨h.1, Or.inl h.2⟩) (fun h => by subst h; exact ⟨hr, Or.inr rfl⟩)⟩ (fun ⟨⟨_, h1⟩, h2⟩ => by subst h2; exact gb_ir h1)) n 0
  rw [cnt_one (Nat.zero_le _) (by omega)] at h1
  have h2 := cnt_le2 (p := fun z => decide (rdy M q t z ∧ (gb M z i ∨ z = i))) (q := fun z => decide (rdy M q t z ∧ gb M z j)) (fun z h => by
    have h := of_decide_eq_true h
    refine decide_eq_true ⟨h.1, ?_⟩
    rcases h.2 with h3 | h3
    · exact gb_tr h3 hg
    · rw [h3]; exact hg) n 0
  unfold ahd
  omega
theorem ahd_inj {q t : Int32} {n i j : Nat} (hi : i < n) (hj : j < n) (hri : rdy M q t i) (hrj : rdy M q t j) (h : ahd M q t n i = ahd M q t n j) : i = j := by
  refine Classical.byContradiction fun hne => ?_
  rcases gb_tot (M := M) hne with h2 | h2
  · have := ahd_mono hi hri h2; omega
  · have := ahd_mono hj hrj h2; omega
theorem nthN_ok {q t : Int32} {n : Nat} : ∀ {k : Nat}, k < crd M q t n → ∃ j, nthN M q t n k = some j ∧ j < n ∧ rdy M q t j ∧ ahd M q t n j = k
  | 0, h => by
    have hm := nxt_0 (M := M) (q := q) (t := t) (pv := none) (n := n)
    show ∃ j, nxt M q t none n 0 none = some j ∧ _
    cases hx : nxt M q t none n 0 none with
    | none =>
      rw [hx] at hm
      obtain ⟨z, _, h2, h3⟩ := cnt_ex h
      exact absurd ⟨of_decide_eq_true h3, fun k hk => nomatch hk⟩ (hm z (by omega))
    | some j =>
      rw [hx] at hm
      obtain ⟨h1, h2, h3⟩ := hm
      refine ⟨j, rfl, h1, h2.1, cnt_0 (fun z _ hz => decide_eq_false fun h4 => ?_)⟩
      rcases h3 z (by omega) ⟨h4.1, fun k hk => nomatch hk⟩ with h5 | h5
      · subst h5; exact gb_ir h4.2
      · exact gb_ir (gb_tr h4.2 h5)
  | k + 1, h => by
    obtain ⟨i, e1, e2, e3, e4⟩ := nthN_ok (k := k) (Nat.lt_of_succ_lt h)
    have hm := nxt_0 (M := M) (q := q) (t := t) (pv := some i) (n := n)
    show ∃ j, nxt M q t (nthN M q t n k) n 0 none = some j ∧ _
    rw [e1]
    have hs := ahd_split e2 e3
    cases hx : nxt M q t (some i) n 0 none with
    | none =>
      rw [hx] at hm
      obtain ⟨z, _, h2, h3⟩ := cnt_ex (q := fun z => decide (rdy M q t z ∧ gb M i z)) (r := n) (i := 0) (by omega)
      have h3 := of_decide_eq_true h3
      exact absurd ⟨h3.1, fun k' hk => by cases hk; exact h3.2⟩ (hm z (by omega))
    | some j =>
      rw [hx] at hm
      obtain ⟨h1, h2, h3⟩ := hm
      have hg := h2.2 i rfl
      refine ⟨j, rfl, h1, h2.1, ?_⟩
      have h5 := cnt_addN (p := fun z => decide (rdy M q t z ∧ gb M z j)) (q := fun z => decide (rdy M q t z ∧ gb M z i)) (s := fun z => decide (z = i)) n 0 (fun z hzn => bool3 (Iff.intro (fun h => by
          by_cases hz : z = i
          · exact Or.inr hz
          · rcases gb_tot (M := M) hz with h6 | h6
            · exact Or.inl ⟨h.1, h6⟩
            · rcases h3 z (by omega) ⟨h.1, fun k' hk => by cases hk; exact h6⟩ with h7 | h7
              · subst h7; exact absurd h.2 gb_ir
              · exact absurd (gb_tr h.2 h7) gb_ir) (fun h => h.elim (fun h => ⟨h.1, gb_tr h.2 hg⟩) (fun h => by subst h; exact ⟨e3, hg⟩))) (fun ⟨⟨_, h1⟩, h2⟩ => by subst h2; exact gb_ir h1))
      rw [cnt_one (Nat.zero_le _) (by omega)] at h5
      unfold ahd at e4 ⊢
      omega
end
