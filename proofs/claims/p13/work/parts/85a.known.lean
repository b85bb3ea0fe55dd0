set_option maxHeartbeats 4000000 in
set_option maxRecDepth 100000 in
theorem la_known {p : Program} {s : State} {m : MethodId} {meth : Method} {c : Code} {b L : Nat} {xs : Nat → Int32} (C0 : lw_At p s m meth c b L xs) : ∃ (dC : Nat → ClassId) (dI : Nat → Nat → Nat) (cI cZ cL : ClassId), va_K (dC, dI) vwCl (tL cI cZ cL) s := by
  obtain ⟨hx, hb, hr, hml, hown, hts0, hX, hbl, hlocks, hgv⟩ := id C0
  have hown : s.vm.findClass RL = some m.cls := hown
  have hts : ∀ w ∈ wsL_law, w.before #[Value.ref b] s = true := fun w h => hts0 w (wsL_law_in w h)
  have hA : ∀ q : Nat, s.heap.size ≤ q → lA s q := fun _ h => h
  have hbA : ¬ lA s b := Nat.not_le.mpr hbl
  obtain ⟨c0, iS0, hKn0⟩ := u_known (C := RX0) (T := TX0) (N := 8) (n := 8) hts inlX0 (hts (.instantiable RX0 8) (by decide +kernel))
  obtain ⟨c1, iS1, hKn1⟩ := u_known (C := RX2) (T := TX2) (N := 3) (n := 3) hts inlX2 (hts (.instantiable RX2 3) (by decide +kernel))
  obtain ⟨c2, iS2, hKn2⟩ := u_known (C := RX3) (T := TX3) (N := 2) (n := 2) hts inlX3 (hts (.instantiable RX3 2) (by decide +kernel))
  obtain ⟨c3, iS3, hKn3⟩ := u_known (C := RX4) (T := TX4) (N := 6) (n := 6) hts inlX4 (hts (.instantiable RX4 6) (by decide +kernel))
  obtain ⟨c4, iS4, hKn4⟩ := u_known (C := RX5) (T := TX5) (N := 8) (n := 8) hts inlX5 (hts (.instantiable RX5 8) (by decide +kernel))
  obtain ⟨c5, iS5, hKn5⟩ := u_known (C := RX6) (T := TX6) (N := 5) (n := 5) hts inlX6 (hts (.instantiable RX6 5) (by decide +kernel))
  obtain ⟨c6, iS6, hKn6⟩ := u_known (C := RX7) (T := TX7) (N := 8) (n := 8) hts inlX7 (hts (.instantiable RX7 8) (by decide +kernel))
  obtain ⟨c7, iS7, hKn7⟩ := u_known (C := RX8) (T := TX8) (N := 35) (n := 35) hts inlX8 (hts (.instantiable RX8 35) (by decide +kernel))
  obtain ⟨cI, aI, rI⟩ := la_arr (hts (.arrayClass .int) (by decide +kernel)) (Or.inl rfl)
  obtain ⟨cZ, aZ, rZ⟩ := la_arr (hts (.arrayClass .boolean) (by decide +kernel)) (Or.inr (Or.inl rfl))
  obtain ⟨cL, aL, rL⟩ := la_arr (hts (.arrayClass .long) (by decide +kernel)) (Or.inr (Or.inr rfl))
  refine ⟨fun k => if k = 0 then c0 else if k = 1 then c1 else if k = 2 then c2 else if k = 3 then c3 else if k = 4 then c4 else if k = 5 then c5 else if k = 6 then c6 else c7, fun k => if k = 0 then iS0 else if k = 1 then iS1 else if k = 2 then iS2 else if k = 3 then iS3 else if k = 4 then iS4 else if k = 5 then iS5 else if k = 6 then iS6 else iS7, cI, cZ, cL, ?_, ?_⟩
  · intro k q hq
    match k, hq with
    | 0, hq => cases hq; exact hKn0
    | 1, hq => cases hq; exact hKn1
    | 2, hq => cases hq; exact hKn2
    | 3, hq => cases hq; exact hKn3
    | 4, hq => cases hq; exact hKn4
    | 5, hq => cases hq; exact hKn5
    | 6, hq => cases hq; exact hKn6
    | 7, hq => cases hq; exact hKn7
    | k + 8, hq => simp [vwCl] at hq
  · intro k q hq
    match k, hq with
    | 0, hq => cases hq; exact ⟨aI, rI⟩
    | 1, hq => cases hq; exact ⟨aZ, rZ⟩
    | 2, hq => cases hq; exact ⟨aL, rL⟩
    | k + 3, hq => simp [tL] at hq
theorem la_exT : ∀ q ∈ exT, Cond.stringRef RX7 q.1 q.2 ∈ lw_tbl := by decide +kernel
theorem la_exC : ∀ c ∈ exC, Cond.castable c c ∈ lw_tbl := by decide +kernel
theorem la_exD : ∀ x ∈ exD, Cond.declares x ∈ lw_tbl := by decide +kernel
theorem la_nest : ∀ q ∈ nestL, Cond.methodLinkNest RX7 q.1 q.2 RX7 ∈ lw_tbl := by decide +kernel
set_option maxHeartbeats 4000000 in
set_option maxRecDepth 100000 in
theorem la_ex {p : Program} {s : State} {m : MethodId} {meth : Method} {c : Code} {b L : Nat} {xs : Nat → Int32} (C0 : lw_At p s m meth c b L xs) {dC : Nat → ClassId} {dI : Nat → Nat → Nat} {cI cZ cL : ClassId} (hK : va_K (dC, dI) vwCl (tL cI cZ cL) s) : exE (lA s) s := by
  obtain ⟨hx, hb, hr, hml, hown, hts0, hX, hbl, hlocks, hgv⟩ := id C0
  have hown : s.vm.findClass RL = some m.cls := hown
  have hts : ∀ w ∈ wsL_law, w.before #[Value.ref b] s = true := fun w h => hts0 w (wsL_law_in w h)
  have hA : ∀ q : Nat, s.heap.size ≤ q → lA s q := fun _ h => h
  have hbA : ¬ lA s b := Nat.not_le.mpr hbl
  have hs := flat_of_before _ hgv
  have hA9 : ∀ a : Nat, a < s.heap.size → ¬ lA s a := fun a h => Nat.not_le.mpr h
  exact ⟨vx_Zqof (hts0 (.laysStatic Bundle.tN "UNASSIGNED_STACK" Bundle.steD) (by decide +kernel)) (hts0 (.initialized Bundle.tN) (by decide +kernel)) (hs (.isRef (.static Bundle.tN "UNASSIGNED_STACK" Bundle.steD)) (by decide +kernel)) hA9, vx_Zqof (hts0 (.laysStatic Bundle.tN "SUPPRESSED_SENTINEL" Bundle.listD) (by decide +kernel)) (hts0 (.initialized Bundle.tN) (by decide +kernel)) (hs (.isRef (.static Bundle.tN "SUPPRESSED_SENTINEL" Bundle.listD)) (by decide +kernel)) hA9, fun q hq => la_str (hK.1 6 _ rfl).2.1 (hts0 _ (la_exT q hq)), fun c hc => va_Nw.of rfl (hts0 _ (la_exC c hc)), fun x hx => va_Nw.of rfl (hts0 _ (la_exD x hx)), va_Nc.of (hs (.not (.castable "java/lang/IllegalStateException" "java/lang/IllegalArgumentException")) (by decide +kernel))⟩
