/-! what the calls answer, as functions, for the class and for the check alike: the number of the exception (0: none), the answer, what changes -/
abbrev cl (x : Int32) : Nat := x.toNatClampNeg
theorem clI {j : Nat} (h : j < 80) : cl (nI j) = j := nI_clamp (by omega)
abbrev rg (lo hi v : Int32) : Prop := lo ≤ v ∧ v ≤ hi
theorem rg_in {x : Int32} {n : Nat} (hn : n ≤ 80) : rg 0 (nI n - 1) x ↔ inR x n := by
  have h1 : (nI n).toInt = n := nI_toInt (by omega)
  have h2 : (nI n - 1).toInt = (n : Int) - 1 := by
    rw [Int32.toInt_sub, h1]
    show (((n : Int) - 1).bmod (2 ^ 32)) = _
    rw [Int.bmod_def]; split <;> omega
  unfold rg inR
  rw [Int32.le_iff_toInt_le, Int32.le_iff_toInt_le, Int32.lt_iff_toInt_lt, Int32.lt_iff_toInt_lt, h1, h2]
  have h0 : (0 : Int32).toInt = 0 := rfl
  rw [h0]; omega
theorem fnd_lt {ks : Nat → Int32} {key : Int32} : ∀ {r i j : Nat}, fnd ks key r i = some j → i ≤ j ∧ j < i + r ∧ ks j = key
  | 0, _, _, h => nomatch h
  | r + 1, i, j, h => by
    by_cases hk : ks i = key
    · have h1 : fnd ks key (r + 1) i = some i := if_pos hk
      rw [h1] at h
      cases h
      exact ⟨Nat.le_refl _, by omega, hk⟩
    · have h1 : fnd ks key (r + 1) i = fnd ks key r (i + 1) := if_neg hk
      rw [h1] at h
      have h2 := fnd_lt h
      exact ⟨by omega, by omega, h2.2.2⟩
theorem w2_id {M : Nat → Nat → Int32} {k i : Nat} : w2 M k i (M k i) = M := by
  funext a b
  unfold w2
  by_cases h : a = k
  · rw [if_pos h, h]; unfold upd; by_cases h2 : b = i
    · rw [if_pos h2, h2]
    · rw [if_neg h2]
  · rw [if_neg h]
theorem nI_m1 {j : Nat} (h : j < 80) : ¬ nI j = -1 := fun h9 => nomatch oI_none (o := some j) (fun z hz => by cases hz; exact h) h9
abbrev tkn (M : Nat → Nat → Int32) (u : Int32) (z : Nat) : Prop := M 5 z = 116 ∧ M 8 z = u
abbrev may (C : Nat → Nat → Int32) (M : Nat → Nat → Int32) (n1 i : Nat) : Prop := (0 < C 0 i ∧ C 4 i = 0 ∧ C 2 i < 3) ∧ fnd (M 1) (1000 + 10 * nI i + C 2 i) n1 0 = none
abbrev rfr (C : Nat → Nat → Int32) (i : Nat) : Int32 := mx (C 3 i) (C 1 i + 7 * C 2 i + 1)
def mad2 (M : Nat → Nat → Int32) (n : Nat) (q key kd cs ct t st : Int32) : Nat → Nat → Int32 := w2 (w2 (w2 (w2 (w2 (w2 (w2 M 0 n q) 1 n key) 2 n kd) 3 n cs) 4 n ct) 6 n t) 5 n st
def ahd (M : Nat → Nat → Int32) (q t : Int32) (n i : Nat) : Nat := cnt (fun z => decide (rdy M q t z ∧ gb M z i)) n 0 0
def plc (M : Nat → Nat → Int32) (q t pl : Int32) (n : Nat) : Nat → Nat → Option Nat
  | 0, _ => none
  | r + 1, i => if rdy M q t i ∧ nI (ahd M q t n i) = pl then some i else plc M q t pl n r (i + 1)
theorem plc_lt {M : Nat → Nat → Int32} {q t pl : Int32} {n : Nat} : ∀ {r i j : Nat}, plc M q t pl n r i = some j → i ≤ j ∧ j < i + r ∧ rdy M q t j
  | 0, _, _, h => nomatch h
  | r + 1, i, j, h => by
    by_cases hk : rdy M q t i ∧ nI (ahd M q t n i) = pl
    · have h1 : plc M q t pl n (r + 1) i = some i := if_pos hk
      rw [h1] at h
      cases h
      exact ⟨Nat.le_refl _, by omega, hk.1⟩
    · have h1 : plc M q t pl n (r + 1) i = plc M q t pl n r (i + 1) := if_neg hk
      rw [h1] at h
      have h2 := plc_lt h
      exact ⟨by omega, by omega, h2.2.2⟩
def bk (M : Nat → Nat → Int32) (i : Nat) (t : Int32) : Nat → Nat → Int32 := w2 (w2 (w2 M 7 i (M 7 i + 1)) 5 i (if M 7 i + 1 = 3 then 120 else 119)) 6 i (t + 2 * (M 7 i + 1))
def bst (t : Int32) (i : Nat) (M : Nat → Nat → Int32) : Nat → Nat → Int32 := if M 5 i = 116 ∧ ¬ t - M 9 i < 5 then bk M i t else M
def bks (t : Int32) : Nat → Nat → (Nat → Nat → Int32) → Nat → Nat → Int32
  | 0, _, M => M
  | r + 1, i, M => bks t r (i + 1) (bst t i M)
theorem bks_1 {t : Int32} {r i : Nat} {M N : Nat → Nat → Int32} (h : bst t i M = N) : bks t (r + 1) i M = bks t r (i + 1) N := by rw [← h]; rfl
/-- one case's reminder: how many were posted, the messages' rows, their number -/
abbrev RM : Type := Nat × (Nat → Nat → Int32) × Nat
def rmst (C : Nat → Nat → Int32) (t : Int32) (c : Nat) (u : RM) : RM :=
  if u.2.2 < 80 ∧ may C u.2.1 u.2.2 c ∧ rfr C c ≤ t then (u.1 + 1, mad2 u.2.1 u.2.2 0 (1000 + 10 * nI c + C 2 c) 114 (nI c) (C 2 c) t 119, u.2.2 + 1) else u
def rms (C : Nat → Nat → Int32) (t : Int32) : Nat → Nat → RM → RM
  | 0, _, u => u
  | r + 1, c, u => rms C t r (c + 1) (rmst C t c u)
theorem rms_1 {C : Nat → Nat → Int32} {t : Int32} {r c : Nat} {u v : RM} (h : rmst C t c u = v) : rms C t (r + 1) c u = rms C t r (c + 1) v := by rw [← h]; rfl
theorem rmst_n {C : Nat → Nat → Int32} {t : Int32} {c : Nat} {u : RM} (h : u.2.2 ≤ 80) : (rmst C t c u).2.2 ≤ 80 ∧ (rmst C t c u).1 ≤ u.1 + 1 ∧ u.1 ≤ (rmst C t c u).1 := by
  unfold rmst; split
  · exact ⟨by simp only; omega, Nat.le_refl _, Nat.le_succ _⟩
  · exact ⟨h, Nat.le_succ _, Nat.le_refl _⟩
theorem rms_n (C : Nat → Nat → Int32) (t : Int32) : ∀ (r c : Nat) (u : RM), u.2.2 ≤ 80 → (rms C t r c u).2.2 ≤ 80 ∧ (rms C t r c u).1 ≤ u.1 + r
  | 0, _, u, h => ⟨h, Nat.le_refl _⟩
  | r + 1, c, u, h => by
    have h1 := rmst_n (C := C) (t := t) (c := c) h
    have h2 := rms_n C t r (c + 1) (rmst C t c u) h1.1
    exact ⟨h2.1, by have := h2.2; have := h1.2.1; simp only [rms]; omega⟩
/-- one day of the check's: its number, the messages' rows, their number -/
def pdm (C : Nat → Nat → Int32) (n0 d : Nat) (M : Nat → Nat → Int32) (n1 : Nat) : RM := rms C (nI (d + 1)) n0 0 (0, bks (nI (d + 1)) n1 0 M, n1)
def pds (C : Nat → Nat → Int32) (n0 : Nat) : Nat → Nat → RM → RM
  | 0, _, u => u
  | r + 1, d, u => pds C n0 r (d + 1) (u.1 + (pdm C n0 d u.2.1 u.2.2).1, (pdm C n0 d u.2.1 u.2.2).2)
theorem pdm_n {C : Nat → Nat → Int32} {n0 d n1 : Nat} {M : Nat → Nat → Int32} (h : n1 ≤ 80) : (pdm C n0 d M n1).2.2 ≤ 80 ∧ (pdm C n0 d M n1).1 ≤ n0 := by
  have := rms_n C (nI (d + 1)) n0 0 (0, bks (nI (d + 1)) n1 0 M, n1) h
  unfold pdm; exact ⟨this.1, by have := this.2; omega⟩
def o_amount (x : Int32) (C : Nat → Nat → Int32) (n0 : Nat) : Int32 × Int32 := if inR x n0 then (0, C 0 (cl x)) else (1, 0)
def o_letters (x : Int32) (C : Nat → Nat → Int32) (n0 : Nat) : Int32 × Int32 := if inR x n0 then (0, C 2 (cl x)) else (1, 0)
def o_open (x due : Int32) (C : Nat → Nat → Int32) (n0 : Nat) (M : Nat → Nat → Int32) (n1 d : Nat) : Int32 × Int32 × (Nat → Nat → Int32) × (Nat → Nat → Int32) × Nat :=
  if rg 1 9999 x then (if rg 0 999 due then (if n0 = 8 then (2, 0, C, M, n0) else (0, nI n0, w2 (w2 (w2 C 5 n0 x) 0 n0 x) 1 n0 due, rel (nI n0) (nI d) n1 0 M, n0 + 1)) else (1, 0, C, M, n0)) else (1, 0, C, M, n0)
def o_pause (x dd : Int32) (C : Nat → Nat → Int32) (n0 d : Nat) : Int32 × Int32 × (Nat → Nat → Int32) :=
  if inR x n0 then (if rg 1 60 dd then (if C 0 (cl x) = 0 then (3, 0, C) else (0, mx (C 3 (cl x)) (nI d + dd), w2 C 3 (cl x) (mx (C 3 (cl x)) (nI d + dd)))) else (2, 0, C)) else (1, 0, C)
def o_awaitNote (x : Int32) (C : Nat → Nat → Int32) (n0 : Nat) : Int32 × Int32 × (Nat → Nat → Int32) :=
  if inR x n0 then (if C 0 (cl x) = 0 then (2, 0, C) else (0, C 4 (cl x), w2 C 4 (cl x) 1)) else (1, 0, C)
def o_nextReminder (x : Int32) (C : Nat → Nat → Int32) (n0 : Nat) (M : Nat → Nat → Int32) (n1 d : Nat) : Int32 × Int32 :=
  if inR x n0 then (if may C M n1 (cl x) then (0, mx (nI (d + 1)) (rfr C (cl x))) else (2, 0)) else (1, 0)
abbrev okp (q key kd x v dl : Int32) : Prop := rg 0 2 q ∧ rg 0 999 key ∧ (kd = 112 ∨ kd = 110) ∧ rg 0 7 x ∧ rg 0 9999 v ∧ rg 0 30 dl
def o_post (q key kd x v dl : Int32) (n0 : Nat) (M : Nat → Nat → Int32) (n1 d : Nat) : Int32 × Int32 × (Nat → Nat → Int32) × Nat :=
  if okp q key kd x v dl then (if fnd (M 1) key n1 0 = none then (if n1 = 80 then (2, 0, M, n1) else (0, nI n1, mad2 M n1 q key kd x v (nI d + dl) (if x < nI n0 then 119 else 104), n1 + 1)) else (0, oI (fnd (M 1) key n1 0), M, n1)) else (1, 0, M, n1)
def o_withKey (key : Int32) (M : Nat → Nat → Int32) (n1 : Nat) : Int32 × Int32 := if fnd (M 1) key n1 0 = none then (1, 0) else (0, oI (fnd (M 1) key n1 0))
def o_row (k : Nat) (z x : Int32) (M : Nat → Nat → Int32) (n1 : Nat) : Int32 × Int32 := if inR x n1 then (0, M k (cl x)) else (1, z)
def o_rowIf (k : Nat) (w x : Int32) (M : Nat → Nat → Int32) (n1 : Nat) : Int32 × Int32 := if inR x n1 then (if M 5 (cl x) = w then (0, M k (cl x)) else (2, 0)) else (1, 0)
def o_ready (q : Int32) (M : Nat → Nat → Int32) (n1 d : Nat) : Int32 × Int32 := if rg 0 2 q then (0, nI (cnt (fun z => decide (rdy M q (nI d) z)) n1 0 0)) else (1, 0)
def o_rap (q pl : Int32) (M : Nat → Nat → Int32) (n1 d : Nat) : Int32 × Int32 := if rg 0 2 q then (if plc M q (nI d) pl n1 n1 0 = none then (2, 0) else (0, oI (plc M q (nI d) pl n1 n1 0))) else (1, 0)
def tk3 (M : Nat → Nat → Int32) (u : Int32) (d : Nat) : Option Nat → Int32 × Int32 × (Nat → Nat → Int32)
  | none => (3, 0, M)
  | some j => (0, nI j, w2 (w2 (w2 M 5 j 116) 8 j u) 9 j (nI d))
def o_take (u q : Int32) (M : Nat → Nat → Int32) (n1 d : Nat) : Int32 × Int32 × (Nat → Nat → Int32) :=
  if rg 0 3 u then (if rg 0 2 q then (if cnt (fun z => decide (tkn M u z)) n1 0 0 = 2 then (2, 0, M) else tk3 M u d (plc M q (nI d) 0 n1 n1 0)) else (1, 0, M)) else (1, 0, M)
def fin3 (i c : Nat) (C M : Nat → Nat → Int32) : Int32 × (Nat → Nat → Int32) :=
  if M 2 i = 112 then (b2 (0 < C 0 c ∧ 0 < M 4 i), w2 C 0 c (mx 0 (C 0 c - M 4 i)))
  else if M 2 i = 110 then (C 4 c, w2 C 4 c 0) else (b2 (0 < C 0 c ∧ C 2 c = M 4 i), if 0 < C 0 c ∧ C 2 c = M 4 i then w2 C 2 c (C 2 c + 1) else C)
def o_finish (x : Int32) (C M : Nat → Nat → Int32) (n1 : Nat) : Int32 × Int32 × (Nat → Nat → Int32) × (Nat → Nat → Int32) :=
  if inR x n1 then (if M 5 (cl x) = 116 then (0, (fin3 (cl x) (cl (M 3 (cl x))) C M).1, (fin3 (cl x) (cl (M 3 (cl x))) C M).2, w2 M 5 (cl x) 100) else (2, 0, C, M)) else (1, 0, C, M)
def o_handBack (x : Int32) (M : Nat → Nat → Int32) (n1 d : Nat) : Int32 × Int32 × (Nat → Nat → Int32) :=
  if inR x n1 then (if M 5 (cl x) = 116 then (0, M 7 (cl x) + 1, bk M (cl x) (nI d)) else (2, 0, M)) else (1, 0, M)
def wk (M : Nat → Nat → Int32) (i : Nat) (t : Int32) : Nat → Nat → Int32 := w2 (w2 (w2 M 5 i 119) 6 i t) 7 i 0
def o_revive (x : Int32) (M : Nat → Nat → Int32) (n1 d : Nat) : Int32 × Int32 × (Nat → Nat → Int32) :=
  if inR x n1 then (if M 5 (cl x) = 120 then (0, nI (cnt (fun z => decide (wk M (cl x) (nI d) 5 z = 120)) n1 0 0), wk M (cl x) (nI d)) else (2, 0, M)) else (1, 0, M)
def o_has (u : Int32) (M : Nat → Nat → Int32) (n1 : Nat) : Int32 × Int32 := if rg 0 3 u then (0, nI (cnt (fun z => decide (tkn M u z)) n1 0 0)) else (1, 0)
def o_pass (dd : Int32) (C : Nat → Nat → Int32) (n0 : Nat) (M : Nat → Nat → Int32) (n1 d : Nat) : Int32 × RM × Nat :=
  if rg 1 30 dd then (if 999 < nI d + dd then (1, (0, M, n1), d) else (0, pds C n0 (cl dd) d (0, M, n1), d + cl dd)) else (1, (0, M, n1), d)
abbrev oks (w : Int32) : Prop := w = 104 ∨ w = 119 ∨ w = 116 ∨ w = 100 ∨ w = 120
def o_count (w : Int32) (M : Nat → Nat → Int32) (n1 : Nat) : Int32 × Int32 := if oks w then (0, nI (cnt (fun z => decide (M 5 z = w)) n1 0 0)) else (1, 0)
def o_share (M : Nat → Nat → Int32) (n1 : Nat) : Int32 × UInt32 := if n1 = 0 then (1, 0) else (0, FP.fdiv (FP.i2f (nI (cnt (fun z => decide (M 5 z = 100)) n1 0 0))) (FP.i2f (nI n1)))
def o_mean (C : Nat → Nat → Int32) (n0 : Nat) : Int32 × UInt64 := if cnt (fun z => decide (0 < C 0 z)) n0 0 0 = 0 then (1, 0) else (0, FP.ddiv (FP.i2d (sm (C 0) n0 0 0)) (FP.i2d (nI (cnt (fun z => decide (0 < C 0 z)) n0 0 0))))
theorem y_n32 {r : UInt32} (h : FP.Core.fIsNaN r = false) : vf_n32 r := by
  have h1 : ¬ 2139095040 < r.toNat % 2 ^ 31 := fun h2 => by rw [(FP.Core.isNaN_bits32 r).mpr h2] at h; cases h
  unfold vf_n32
  rw [UInt32.le_iff_toNat_le, UInt32.toNat_and]
  have h2 : (0x7fffffff : UInt32).toNat = 2 ^ 31 - 1 := rfl
  have h3 : (0x7f800000 : UInt32).toNat = 2139095040 := rfl
  rw [h2, h3, Nat.and_two_pow_sub_one_eq_mod]
  omega
theorem y_n64 {r : UInt64} (h : FP.Core.dIsNaN r = false) : vf_n64 r := by
  have h1 : ¬ 9218868437227405312 < r.toNat % 2 ^ 63 := fun h2 => by rw [(FP.Core.isNaN_bits r).mpr h2] at h; cases h
  unfold vf_n64
  rw [UInt64.le_iff_toNat_le, UInt64.toNat_and]
  have h2 : (0x7fffffffffffffff : UInt64).toNat = 2 ^ 63 - 1 := rfl
  have h3 : (0x7ff0000000000000 : UInt64).toNat = 9218868437227405312 := rfl
  rw [h2, h3, Nat.and_two_pow_sub_one_eq_mod]
  omega
theorem y_fnan {a b : Int32} (h : b ≠ 0) : FP.Core.fIsNaN (FP.fdiv (FP.i2f a) (FP.i2f b)) = false := FP.Core.fdiv_out (FP.Core.FFin.notNaN (FP.Core.i2f_fin a)) (FP.Core.i2f_fin b) (fun hz => FP.Core.i2f_ne_zero h ((FP.Core.zero_bits232 _).mp hz))
theorem y_dnan {a b : Int32} (h : b ≠ 0) : FP.Core.dIsNaN (FP.ddiv (FP.i2d a) (FP.i2d b)) = false := FP.Core.ddiv_out (FP.Core.DFin.notNaN (FP.Core.i2d_fin a)) (FP.Core.i2d_fin b) (fun hz => FP.Core.i2d_ne_zero h ((FP.Core.zero_bits2 _).mp hz))
theorem y_fdiv {a b : Int32} (h : b ≠ 0) : vf_n32 (FP.fdiv (FP.i2f a) (FP.i2f b)) := y_n32 (y_fnan h)
theorem y_ddiv {a b : Int32} (h : b ≠ 0) : vf_n64 (FP.ddiv (FP.i2d a) (FP.i2d b)) := y_n64 (y_dnan h)
theorem b2_n9 {x : Int32} (h : x = 0 ∨ x = 1) : narrow .boolean (.int x) = .int x := by rcases h with h | h <;> rw [h] <;> rfl
