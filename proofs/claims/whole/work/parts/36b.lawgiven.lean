/-! the law's entry: what the claim gives of the start -/
theorem y_flags {l : Launch} (h : l.flags = flags0) : l.stackTraces = false := by
  unfold Launch.stackTraces
  rw [h]
  decide +kernel
theorem y_inNW : ∀ w ∈ yNW, w ∈ lw_tbl := by decide +kernel
theorem y_inST : ∀ q ∈ yST, Cond.stringRef RX2 q.1 q.2 ∈ lw_tbl := by decide +kernel
theorem y_K0 {b : Nat} {s : State} (hts : ∀ w ∈ lw_tbl, w.before #[Value.ref b] s = true) : ∃ G : va_G, ∀ (k : Nat) (q : vw_C), vwCl[k]? = some q → u_Kn s q.1 q.2.1 q.2.2 (G.1 k) (G.2 k) := by
  obtain ⟨c0, i0, h0⟩ := u_known (C := RJ0) (T := TJ0) (N := 2) (n := 4) hts inJ0 (hts (.instantiable RJ0 4) (by decide +kernel))
  obtain ⟨c1, i1, h1⟩ := u_known (C := RJx00060) (T := TJx00060) (N := 6) (n := 6) hts (by decide +kernel) (hts (.instantiable RJx00060 6) (by decide +kernel))
  obtain ⟨c2, i2, h2⟩ := u_known (C := RX0) (T := TX0) (N := 7) (n := 7) hts inX0 (hts (.instantiable RX0 7) (by decide +kernel))
  obtain ⟨c3, i3, h3⟩ := u_known (C := RX1) (T := TX1) (N := 13) (n := 13) hts inX1 (hts (.instantiable RX1 13) (by decide +kernel))
  obtain ⟨c4, i4, h4⟩ := u_known (C := RX2) (T := TX2) (N := 3) (n := 3) hts inX2 (hts (.instantiable RX2 3) (by decide +kernel))
  obtain ⟨c5, i5, h5⟩ := u_known (C := RX3) (T := TX3) (N := 19) (n := 19) hts inX3 (hts (.instantiable RX3 19) (by decide +kernel))
  refine ⟨(fun k => match k with | 0 => c0 | 1 => c1 | 2 => c2 | 3 => c3 | 4 => c4 | _ => c5, fun k => match k with | 0 => i0 | 1 => i1 | 2 => i2 | 3 => i3 | 4 => i4 | _ => i5), ?_⟩
  intro k q hq
  match k, hq with
  | 0, hq => cases hq; exact h0
  | 1, hq => cases hq; exact h1
  | 2, hq => cases hq; exact h2
  | 3, hq => cases hq; exact h3
  | 4, hq => cases hq; exact h4
  | 5, hq => cases hq; exact h5
  | k + 6, hq => simp [vwCl] at hq
theorem y_NC0 {b : Nat} {s : State} (hgv : (Jvm.Cond.and given_1 narrow_1).before #[Value.ref b] s = true) : yNC s := by
  have hs := flat_of_before _ hgv
  have h9 : ∀ q ∈ yNCs, (Cond.not (.castable q.1 q.2)).before #[Value.ref b] s = true := by
    unfold yNCs
    simp only [List.forall_mem_cons]
    refine ⟨hs _ (by decide +kernel), hs _ (by decide +kernel), hs _ (by decide +kernel), hs _ (by decide +kernel), hs _ (by decide +kernel), hs _ (by decide +kernel), hs _ (by decide +kernel), hs _ (by decide +kernel), hs _ (by decide +kernel), hs _ (by decide +kernel), hs _ (by decide +kernel), hs _ (by decide +kernel), hs _ (by decide +kernel), hs _ (by decide +kernel), hs _ (by decide +kernel), hs _ (by decide +kernel), hs _ (by decide +kernel), hs _ (by decide +kernel), hs _ (by decide +kernel), hs _ (by decide +kernel), fun _ h => absurd h List.not_mem_nil⟩
  exact fun q hq => va_Nc.of (h9 q hq)
theorem y_E0 {b : Nat} {s : State} {c : ClassId} (hX2 : s.vm.findClass RX2 = some c) (hts : ∀ w ∈ lw_tbl, w.before #[Value.ref b] s = true) (hgv : (Jvm.Cond.and given_1 narrow_1).before #[Value.ref b] s = true) : yEV0 s s.heap := by
  have hs := flat_of_before _ hgv
  refine ⟨fun w hw => va_Nw.of (ykind_tab (yNW_kind w hw)) (hts w (y_inNW w hw)), fun q hq => ?_, vx_Zqof (hts _ (by decide +kernel)) (hts (.initialized "java/lang/Throwable") (by decide +kernel)) (hs _ (by decide +kernel)) (fun _ _ h => h), vx_Zqof (hts _ (by decide +kernel)) (hts (.initialized "java/lang/Throwable") (by decide +kernel)) (hs _ (by decide +kernel)) (fun _ _ h => h)⟩
  have h1 := hts _ (y_inST q hq)
  obtain ⟨k, cf, j, a, hk, -, -, -, hr, hev⟩ := Cond.stringRef_spec hX2 h1
  exact ⟨a, vk_R.of h1 hev⟩
