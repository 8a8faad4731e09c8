/-! what the class answers where it goes another way than the check -/
theorem mx_toInt (x y : Int32) : (mx x y).toInt = max x.toInt y.toInt := by
  unfold mx
  by_cases h : x < y
  · rw [if_pos h]; have := Int32.lt_iff_toInt_lt.mp h; omega
  · rw [if_neg h]
    have : ¬ x.toInt < y.toInt := fun h2 => h (Int32.lt_iff_toInt_lt.mpr h2)
    omega
theorem mx_comm3 (x y z : Int32) : mx (mx x y) z = mx x (mx z y) := by
  apply Int32.toInt_inj.mp
  simp only [mx_toInt]
  omega
theorem y_0 {x : Int32} (h : 0 ≤ x) (h2 : ¬ 0 < x) : x = 0 := Int32.le_antisymm (Int32.not_lt.mp h2) h
theorem mx_le {x y t : Int32} : mx x y ≤ t ↔ x ≤ t ∧ y ≤ t := by
  unfold mx
  by_cases h : x < y
  · rw [if_pos h]
    exact ⟨fun h2 => ⟨Int32.le_trans (Int32.le_of_lt h) h2, h2⟩, fun h2 => h2.2⟩
  · rw [if_neg h]
    exact ⟨fun h2 => ⟨h2, Int32.le_trans (Int32.not_lt.mp h) h2⟩, fun h2 => h2.1⟩
theorem w2_w2 {M : Nat → Nat → Int32} {k i : Nat} {x y : Int32} : w2 (w2 M k i x) k i y = w2 M k i y := by
  funext a b
  unfold w2
  by_cases h : a = k
  · rw [if_pos h, if_pos h, if_pos rfl]; unfold upd; by_cases h2 : b = i
    · rw [if_pos h2, if_pos h2]
    · rw [if_neg h2, if_neg h2, if_neg h2]
  · rw [if_neg h, if_neg h, if_neg h]
def o_lbm (x : Int32) (C : Nat → Nat → Int32) (n0 : Nat) (M : Nat → Nat → Int32) (ds n1 : Nat) : Int32 × Int32 := if inR x n0 then (0, nI (lfr M x n1 ds 0 (C 5 (cl x), 0)).2) else (1, 0)
def nthN (M : Nat → Nat → Int32) (q t : Int32) (n : Nat) : Nat → Option Nat
  | 0 => nxt M q t none n 0 none
  | k + 1 => nxt M q t (nthN M q t n k) n 0 none
theorem nxt_lt {M : Nat → Nat → Int32} {q t : Int32} {pv : Option Nat} : ∀ {r i : Nat} {o : Option Nat}, (∀ z, o = some z → z < i) → ∀ {j : Nat}, nxt M q t pv r i o = some j → j < i + r
  | 0, i, o, ho, j, h => ho j h
  | r + 1, i, o, ho, j, h => by
    have h1 : ∀ z, nst M q t i o pv = some z → z < i + 1 := by
      intro z hz
      have h2 : nst M q t i o pv = o ∨ nst M q t i o pv = nst2 M i o := by
        cases pv with
        | none => by_cases hr : rdy M q t i
                  · exact Or.inr (nst_n hr)
                  · exact Or.inl (nst_r hr)
        | some k => by_cases hr : rdy M q t i
                    · by_cases hg : gb M k i
                      · exact Or.inr (nst_s hr hg)
                      · exact Or.inl (nst_k hr hg)
                    · exact Or.inl (nst_r hr)
      rcases h2 with h2 | h2
      · rw [h2] at hz; have := ho z hz; omega
      · rw [h2] at hz
        cases o with
        | none => have : some i = some z := hz; cases this; omega
        | some k =>
          have hk := ho k rfl
          by_cases hg : gb M i k
          · rw [nst2_s hg] at hz; cases hz; omega
          · rw [nst2_k hg] at hz; cases hz; omega
    have := nxt_lt (r := r) (i := i + 1) h1 (j := j) h
    omega
theorem nthN_lt {M : Nat → Nat → Int32} {q t : Int32} {n : Nat} {k j : Nat} (h : nthN M q t n k = some j) : j < n := by
  cases k with
  | zero => have := nxt_lt (o := none) (fun z hz => nomatch hz) h; omega
  | succ k => have := nxt_lt (o := none) (fun z hz => nomatch hz) h; omega
def o_rapC (q pl : Int32) (M : Nat → Nat → Int32) (n1 d : Nat) : Int32 × Int32 :=
  if rg 0 2 q then (if ¬ pl < 0 ∧ pl < nI (cnt (fun z => decide (rdy M q (nI d) z)) n1 0 0) then (0, oI (nthN M q (nI d) n1 (cl pl))) else (2, 0)) else (1, 0)
def o_takeC (u q : Int32) (M : Nat → Nat → Int32) (n1 d : Nat) : Int32 × Int32 × (Nat → Nat → Int32) :=
  if rg 0 3 u then (if rg 0 2 q then (if 2 ≤ cnt (fun z => decide (tkn M u z)) n1 0 0 then (2, 0, M) else tk3 M u d (nxt M q (nI d) none n1 0 none)) else (1, 0, M)) else (1, 0, M)
def fin3C (i c : Nat) (C M : Nat → Nat → Int32) : Int32 × (Nat → Nat → Int32) :=
  if M 2 i = 112 then (b2 (mx 0 (C 0 c - M 4 i) ≠ C 0 c), w2 C 0 c (mx 0 (C 0 c - M 4 i)))
  else if M 2 i = 110 then (C 4 c, w2 C 4 c 0) else (b2 (0 < C 0 c ∧ C 2 c = M 4 i), if 0 < C 0 c ∧ C 2 c = M 4 i then w2 C 2 c (C 2 c + 1) else C)
def o_finishC (x : Int32) (C M : Nat → Nat → Int32) (ds n1 : Nat) : Int32 × Int32 × (Nat → Nat → Int32) × (Nat → Nat → Int32) × Nat :=
  if inR x n1 then (if M 5 (cl x) = 116 then (0, (fin3C (cl x) (cl (M 3 (cl x))) C M).1, (fin3C (cl x) (cl (M 3 (cl x))) C M).2, w2 (w2 M 5 (cl x) 100) 10 ds x, ds + 1) else (2, 0, C, M, ds)) else (1, 0, C, M, ds)
def o_handBackC (x : Int32) (M : Nat → Nat → Int32) (n1 d : Nat) : Int32 × Int32 × (Nat → Nat → Int32) :=
  if inR x n1 then (if M 5 (cl x) = 116 then (0, M 7 (cl x) + 1, pb M (cl x) (nI d)) else (2, 0, M)) else (1, 0, M)
theorem fin3C_01 {i c : Nat} {C M : Nat → Nat → Int32} (h : C 4 c = 0 ∨ C 4 c = 1) : (fin3C i c C M).1 = 0 ∨ (fin3C i c C M).1 = 1 := by
  have hb : ∀ (q : Prop) [Decidable q], b2 q = 0 ∨ b2 q = 1 := fun q _ => by
    by_cases hq : q
    · exact Or.inr (b2_t hq)
    · exact Or.inl (b2_f hq)
  unfold fin3C
  by_cases h1 : M 2 i = 112
  · rw [if_pos h1]; exact hb _
  · rw [if_neg h1]
    by_cases h2 : M 2 i = 110
    · rw [if_pos h2]; exact h
    · rw [if_neg h2]; exact hb _
theorem pb_7 {M : Nat → Nat → Int32} {i : Nat} {t : Int32} : pb M i t 7 i = M 7 i + 1 := by
  unfold pb; split
  · rw [w2_n (by decide), w2_n (by decide), w2_k, pk_us]
  · rw [w2_n (by decide), w2_k, pk_us]
def pdC (C : Nat → Nat → Int32) (n0 d : Nat) (M : Nat → Nat → Int32) (n1 : Nat) : RM := rms C (nI (d + 1)) n0 0 (0, pbk (nI (d + 1) - 5) (nI (d + 1)) n1 0 M, n1)
def pdsC (C : Nat → Nat → Int32) (n0 : Nat) : Nat → Nat → RM → RM
  | 0, _, u => u
  | r + 1, d, u => pdsC C n0 r (d + 1) (u.1 + (pdC C n0 d u.2.1 u.2.2).1, (pdC C n0 d u.2.1 u.2.2).2)
theorem pdC_n {C : Nat → Nat → Int32} {n0 d n1 : Nat} {M : Nat → Nat → Int32} (h : n1 ≤ 80) : (pdC C n0 d M n1).2.2 ≤ 80 ∧ (pdC C n0 d M n1).1 ≤ n0 := by
  have := rms_n C (nI (d + 1)) n0 0 (0, pbk (nI (d + 1) - 5) (nI (d + 1)) n1 0 M, n1) h
  unfold pdC; exact ⟨this.1, by have := this.2; omega⟩
def o_passC (dd : Int32) (C : Nat → Nat → Int32) (n0 : Nat) (M : Nat → Nat → Int32) (n1 d : Nat) : Int32 × RM × Nat :=
  if rg 1 30 dd then (if 999 < nI d + dd then (1, (0, M, n1), d) else (0, pdsC C n0 (cl dd) d (0, M, n1), d + cl dd)) else (1, (0, M, n1), d)
