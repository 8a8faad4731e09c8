/-! rows for the law's own methods -/
theorem ws_flt : Cond.constantFloat RL 98 3212836864 ∈ wsL_isSound := List.mem_of_getElem? (i := 1) rfl
section
variable {p : Program} {l : Launch} {e : Env} {R : Room} {s : State} {m : MethodId} {args : Array Value} {below : List Frame} {meth : Method} {c : Code} {H : Heap} {locs : List Loc} {cells slots : Nat} {Q : State → Prop} {pc : Nat} {ls : Array Slot} {rest : List Value} {cc : ByteArray}
theorem y_join {pc1 : Nat} {ls1 : Array Slot} {st1 : List Value} {g : JFrame} (P : Heap → List Loc → Nat → Nat → Prop) (K : ∀ (H : Heap) (locs : List Loc) (cells slots : Nat), P H locs cells slots → W p l e R s m args below meth c H locs cells slots Q (F0 m pc1 ls1 st1)) (go : (∀ (H : Heap) (locs : List Loc) (cells slots : Nat), P H locs cells slots → W p l e R s m args below meth c H locs cells slots Q (F0 m pc1 ls1 st1)) → W p l e R s m args below meth c H locs cells slots Q g) : W p l e R s m args below meth c H locs cells slots Q g := go K
theorem ySQ_recv {adK adV : Nat → Nat} {i : Nat} (h : ySQ adK adV s H) (hi : i < 2) : ∃ cell : Cell, H[adK i]? = some cell ∧ cell.vm.isStatics = false ∧ s.vm.findClass "java/lang/String" = some cell.cls := by
  obtain ⟨cell, h1, h2, h3, -⟩ := (h.1.1 i hi).1
  exact ⟨cell, h1, h2, h3⟩
theorem y_lcmp (hexec : p.tables.exec = Jvm.exec) (hb : c.code = cc) {x y : Int64} (hxy : x = y) (hdg : decode cc pc = .ok (.lcmp, 1))
    (k : W p l e R s m args below meth c H locs cells slots Q (F0 m (pc + 1) ls (.int 0 :: rest))) : W p l e R s m args below meth c H locs cells slots Q (F0 m pc ls (.long y :: .long x :: rest)) := by
  subst hxy
  have h1 : ¬ x < x := Int64.lt_irrefl
  intro T hT X
  obtain ⟨t, a, b⟩ := k T hT X
  refine ⟨t, ?_, b⟩
  jvm_step X.here [X.here.top, hexec, hb, hdg, h1]
  exact a
end
/-- the law's own sum, as a function of the state -/
def sC (σ : SX) : Nat → Nat → Int64 → Int64
  | 0, _, a => a
  | r + 1, i, a => sC σ r (i + 1) (31 * a + (f_of 0 (nI i) σ).toInt64 + 3 * (f_of 1 (nI i) σ).toInt64 + 5 * (f_of 3 (nI i) σ).toInt64)
def sM (σ : SX) : Nat → Nat → Int64 → Int64
  | 0, _, a => a
  | r + 1, i, a => sM σ r (i + 1) (31 * a + (f_msg 0 (nI i) σ).toInt64 + 3 * (f_msg 1 (nI i) σ).toInt64 + 5 * (f_msg 2 (nI i) σ).toInt64 + 7 * (f_msg 3 (nI i) σ).toInt64 + 11 * (f_msg 4 (nI i) σ).toInt64)
def f_sum (σ : SX) : Int64 := 31 * sM σ σ.2.2.2.2.1 0 (sC σ 8 0 (nI σ.2.2.2.2.2).toInt64) + (nI σ.2.2.2.2.1).toInt64
/-- the ready ones before the place k: none, or the one at the place before -/
def rdI (σ : SX) (q : Int32) (k : Nat) (dy la : Int32) : Prop := (k = 0 ∧ dy = -1 ∧ la = -1) ∨ ∃ k' j, k = k' + 1 ∧ nthN σ.2.2.1 q (nI σ.2.2.2.2.2) σ.2.2.2.2.1 k' = some j ∧ dy = σ.2.2.1 6 j ∧ la = nI j
theorem oks_pos {v : Int32} (h : oks v) : ¬ v < 0 := by
  rcases h with e | e | e | e | e <;> rw [e] <;> decide
theorem nI_pr {n : Nat} (h : 0 < n) : nI n - 1 = nI (n - 1) := by
  obtain ⟨k, rfl⟩ : ∃ k, n = k + 1 := ⟨n - 1, by omega⟩
  exact nI_pred k
theorem key_eq (i t : Nat) : (1000 : Int32) + 10 * nI i + nI t = nI (1000 + 10 * i + t) := by
  rw [show (10 : Int32) * nI i = nI (10 * i) from (by rw [show (10 : Int32) = nI 10 from rfl]; exact nI_mul 10 i), show (1000 : Int32) = nI 1000 from rfl, nI_add, nI_add]
section
variable {σ : SX}
theorem J_le80 (h : yJs σ) : ¬ 80 < nI σ.2.2.2.2.1 := by
  rw [show (80 : Int32) = nI 80 from rfl]; exact Int32.not_lt.mpr (yn_le (J_n1 h) (by decide))
theorem J_t7 (h : yJs σ) {i : Nat} (hi : i < σ.2.2.2.2.1) : σ.2.2.1 7 i = 0 ∨ σ.2.2.1 7 i = 1 ∨ σ.2.2.1 7 i = 2 ∨ σ.2.2.1 7 i = 3 := by
  by_cases h5 : σ.2.2.1 5 i = 120
  · exact Or.inr (Or.inr (Or.inr ((J_q h hi).1 h5)))
  · rcases (J_m h hi).2.2.2.2.1 h5 with e | e | e
    · exact Or.inl e
    · exact Or.inr (Or.inl e)
    · exact Or.inr (Or.inr (Or.inl e))
theorem J_t7a (h : yJs σ) {i : Nat} (hi : i < σ.2.2.2.2.1) : ¬ σ.2.2.1 7 i < 0 := by
  rcases J_t7 h hi with e | e | e | e <;> rw [e] <;> decide
theorem J_t7b (h : yJs σ) {i : Nat} (hi : i < σ.2.2.2.2.1) : ¬ 3 < σ.2.2.1 7 i := by
  rcases J_t7 h hi with e | e | e | e <;> rw [e] <;> decide
theorem J_t7c (h : yJs σ) {i : Nat} (hi : i < σ.2.2.2.2.1) (h5 : ¬ σ.2.2.1 5 i = 120) : ¬ σ.2.2.1 7 i = 3 := by
  rcases (J_m h hi).2.2.2.2.1 h5 with e | e | e <;> rw [e] <;> decide
theorem J_8 (h : yJs σ) {i : Nat} (hi : i < σ.2.2.2.2.1) (h5 : σ.2.2.1 5 i = 116) : ¬ σ.2.2.1 8 i < 0 := by
  obtain ⟨u, hu, e⟩ := (J_q h hi).2.2.1 h5
  rw [e]; exact nI_pos (by omega)
theorem J_crd (h : yJs σ) {q : Int32} : crd σ.2.2.1 q (nI σ.2.2.2.2.2) σ.2.2.2.2.1 ≤ 80 := Nat.le_trans crd_le (J_n1 h)
theorem J_ready2 (h : yJs σ) : ¬ f_cnt 119 σ < 0 + nI (crd σ.2.2.1 0 (nI σ.2.2.2.2.2) σ.2.2.2.2.1) + nI (crd σ.2.2.1 1 (nI σ.2.2.2.2.2) σ.2.2.2.2.1) + nI (crd σ.2.2.1 2 (nI σ.2.2.2.2.2) σ.2.2.2.2.1) := by
  have := J_ready h
  rw [rdy_v (by decide), rdy_v (by decide), rdy_v (by decide)] at this
  exact this
theorem J_next {y : Int32} {d : Nat} (hd : d ≤ 999) : ¬ mx (nI (d + 1)) y ≤ nI d := fun h => nI_ge (Nat.lt_succ_self d) (by omega) (mx_le.mp h).1
theorem rap_w (h : yJs σ) {q : Int32} {k : Nat} (hq : rg 0 2 q) (hk : k < crd σ.2.2.1 q (nI σ.2.2.2.2.2) σ.2.2.2.2.1) : ∃ j, nthN σ.2.2.1 q (nI σ.2.2.2.2.2) σ.2.2.2.2.1 k = some j ∧ f_rap q (nI k) σ = nI j ∧ j < σ.2.2.2.2.1 ∧ rdy σ.2.2.1 q (nI σ.2.2.2.2.2) j := by
  obtain ⟨j, h1, h2⟩ := rap_v h hq hk
  obtain ⟨j', h3, h4, h5, h6⟩ := nthN_ok hk
  rw [h1] at h3
  cases h3
  exact ⟨j, h1, h2, h4, h5⟩
theorem rd_ok (h : yJs σ) {q dy la : Int32} {k j : Nat} (hI : rdI σ q k dy la) (hk : k < crd σ.2.2.1 q (nI σ.2.2.2.2.2) σ.2.2.2.2.1) (hj : nthN σ.2.2.1 q (nI σ.2.2.2.2.2) σ.2.2.2.2.1 k = some j) : ¬ σ.2.2.1 6 j < dy ∧ (σ.2.2.1 6 j = dy → la ≤ nI j) := by
  obtain ⟨j', h3, h4, h5, h6⟩ := nthN_ok hk
  rw [hj] at h3; cases h3
  have hn := J_n1 h
  rcases hI with ⟨rfl, rfl, rfl⟩ | ⟨k', j0, rfl, e1, rfl, rfl⟩
  · have h7 := (J_q h h4).2.1 h5.2.1
    refine ⟨fun h9 => absurd (Int32.lt_of_le_of_lt h7 h9) (by decide), fun _ => Int32.le_trans (by decide) (nI_ge0 (a := j) (by omega))⟩
  · obtain ⟨j1, g3, g4, g5, g6⟩ := nthN_ok (k := k') (M := σ.2.2.1) (q := q) (t := nI σ.2.2.2.2.2) (n := σ.2.2.2.2.1) (by omega)
    rw [e1] at g3; cases g3
    have hne : j0 ≠ j := fun h9 => by rw [h9] at g6; omega
    have hg : gb σ.2.2.1 j0 j := by
      rcases gb_tot (M := σ.2.2.1) hne with h9 | h9
      · exact h9
      · have := ahd_mono h4 h5 h9 (j := j0); omega
    refine ⟨fun h9 => ?_, fun h9 => ?_⟩
    · rcases hg with h8 | h8
      · exact absurd h9 (Int32.lt_asymm h8)
      · rw [h8.1] at h9; exact absurd h9 Int32.lt_irrefl
    · rcases hg with h8 | h8
      · rw [h9] at h8; exact absurd h8 Int32.lt_irrefl
      · exact yn_le (by omega) (by omega)
theorem share_i (h : yJs σ) : Op.cmpValue (FP.fcmp (f_share σ) 3212836864) .l = 0 ↔ nI σ.2.2.2.2.1 = 0 := by
  have hn := J_n1 h
  by_cases h0 : σ.2.2.2.2.1 = 0
  · rw [share_0 h0, h0]; exact ⟨fun _ => rfl, fun _ => by decide +kernel⟩
  · exact ⟨fun h9 => absurd h9 (share_n h h0).1, fun h9 => absurd (nI_inj (b := 0) (by omega) (by omega) h9) h0⟩
theorem share_l (h : yJs σ) : ¬ 0 < Op.cmpValue (FP.fcmp (f_share σ) FP.fconst1) .g := by
  by_cases h0 : σ.2.2.2.2.1 = 0
  · rw [share_0 h0]; decide +kernel
  · exact (share_n h h0).2
end
