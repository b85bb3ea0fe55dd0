theorem z_pos {x : Int32} (h : x = 1 ∨ x = 2 ∨ x = 3) : ¬ x = 0 ∧ ¬ x ≤ 0 := by
  rcases h with rfl | rfl | rfl <;> decide
theorem d_le0 {D : Nat} (h : D ≤ 8) : nI D ≤ 0 ↔ D = 0 := by
  rw [show (0 : Int32) = nI 0 from rfl, n_le (by omega) (by omega)]
  omega
/-- A RULE RUNS on both sides -/
theorem rule_sim {C M : St} {r c T lim : Nat} (h : Sh C M) (hr : r < 12) (hok : RuOK C r) (hlim : C.1 1040 = nI lim) (hl : lim ≤ 65536) (hc : c < 40) (hcm : M.1 686 = nI c) (hF : FRel C M T) (hT : T ≤ 100000) :
    ∃ b C1 M1 T1, rs_X7_runRule C (nI r) (nI c) = (b, C1) ∧ rs_X8_runs M (nI r) = (b, M1) ∧ (b = 0 ∨ b = 1) ∧ Sh C1 M1 ∧ FRel C1 M1 T1 ∧ T1 ≤ T + 1 ∧ Fx C C1 c ∧ Fx M M1 c ∧ ok_X7_runRule C (nI r) (nI c) ∧ ok_X8_runs M (nI r) := by
  obtain ⟨L, e, hL, he, hLn, hen, hops⟩ := hok
  have hB : rs_X4_begin C = sI (sI (sI (sI C 1042 0) 1043 0) 1044 0) 1045 0 := rfl
  obtain ⟨C1, M1, n, e1, e2, ⟨s1, s2, s3, s4, s5, ⟨t1, ht1, ha1⟩, s7, s8⟩, e4, e5⟩ := run_loop hr hL he hl lim (sI (sI (sI (sI C 1042 0) 1043 0) 1044 0) 1045 0) (sI (sI (sI M 1042 0) 1043 0) 1045 0) 0 0 0 66000 66100 (by omega) (by omega) (by omega)
    ((((h.cI 1042 _ (by decide)).mI 1042 _ (by decide)).wI 1043 0).cI 1044 _ (by decide) |>.wI 1045 0) hlim rfl rfl (by omega) rfl rfl (by omega) rfl hLn hen hops
  have fc : Fx C C1 c := (((((Fx.rf (C := C)).wI 1042 0 (by decide)).wI 1043 0 (by decide)).wI 1044 0 (by decide)).wI 1045 0 (by decide)).tr (Fx.of c s7)
  have fm : Fx M M1 c := ((((Fx.rf (C := M)).wI 1042 0 (by decide)).wI 1043 0 (by decide)).wI 1045 0 (by decide)).tr (Fx.of c s8)
  have er : rs_X4_run C (nI r) = C1 := by
    unfold rs_X4_run rs_X4_run_26
    rw [hB, x16 hr, cl_n (by omega), hLn, hen]
    exact e1
  have eo : ok_X4_run C (nI r) := by
    unfold ok_X4_run ok_X4_run_26
    rw [hB, x16 hr, cl_n (by omega), hLn, hen]
    exact ⟨vp_in_nI hr (by omega), vp_in_nI hr (by omega), trivial, e4⟩
  have em : rs_X8_runs M (nI r) = rs_X8_runs_84 M1 (nI r) (nI n) := e2
  -- what was told stands as it was
  have u961 : C1.1 961 = C.1 961 := (s7.1 961 (by decide) (by decide) (by decide) (by decide)).trans rfl
  have u2001 : M1.1 2001 = M.1 2001 := (s8.1 2001 (by decide) (by decide) (by decide) (by decide)).trans rfl
  have u686 : M1.1 686 = nI c := ((s8.1 686 (by decide) (by decide) (by decide) (by decide)).trans rfl).trans hcm
  have hF1 : FRel C1 M1 T := by
    obtain ⟨f1, f2, f3⟩ := hF
    refine ⟨u961.trans f1, u2001.trans f2, fun i hi => ?_⟩
    rw [s7.2 25 (by decide) (by decide), s8.2 30 (by decide) (by decide), s8.2 31 (by decide) (by decide), s8.2 32 (by decide) (by decide), s8.2 33 (by decide) (by decide)]
    exact f3 i hi
  have hS8 : Sh (sA C1 8 r (nI n)) (sA M1 8 r (nI n)) := s1.wA _ _ _
  have hF8 : FRel (sA C1 8 r (nI n)) (sA M1 8 r (nI n)) T := ⟨hF1.1, hF1.2.1, hF1.2.2⟩
  have r8 : (nI r).toNatClampNeg = r := cl_n (by omega)
  have c8 : (nI c).toNatClampNeg = c := cl_n (by omega)
  by_cases w : C1.1 1045 = 0
  · -- it did not fail
    obtain ⟨D, h8, hD, hM⟩ := s4 w
    have wm : M1.1 1045 ≤ 0 := by rw [s1.i 1045, w]; decide
    obtain ⟨v, hv⟩ : ∃ v : Int32, v = if D = 0 then 0 else C1.2 27 (D - 1) := ⟨_, rfl⟩
    have et : rs_X4_top (sA C1 8 r (nI n)) = (v, sA C1 8 r (nI n)) := by
      unfold rs_X4_top
      rw [sA_1, hD]
      by_cases q : D = 0
      · rw [if_pos ((d_le0 h8).mpr q), hv, if_pos q]
      · rw [if_neg (fun z => q ((d_le0 h8).mp z)), d_m1 (by omega), cl_n (by omega), hv, if_neg q]
        rfl
    have ec : rs_X7_runRule C (nI r) (nI c) = (1, sA (sA C1 8 r (nI n)) 7 r v) := by
      unfold rs_X7_runRule rs_X7_runRule_23
      rw [er, if_pos w, s2, r8, et]
      unfold rs_X7_runRule_104
      rw [r8]
    have emm : rs_X8_runs M (nI r) = (1, sA (sA M1 8 r (nI n)) 7 r v) := by
      rw [em]
      unfold rs_X8_runs_84
      rw [if_pos wm, hM, r8]
      unfold rs_X8_runs_147
      rw [r8]
      by_cases q : D = 0
      · rw [if_pos ((d_le0 h8).mpr q), hv, if_pos q]
      · rw [if_neg (fun z => q ((d_le0 h8).mp z)), d_m1 (by omega), cl_n (by omega), hv, if_neg q, s1.a 27]
    refine ⟨1, _, _, T, ec, emm, Or.inr rfl, hS8.wA _ _ _, ⟨hF8.1, hF8.2.1, hF8.2.2⟩, by omega, (fc.wA 8 _ _ (by decide) (by decide)).wA 7 _ _ (by decide) (by decide), (fm.wA 8 _ _ (by decide) (by decide)).wA 7 _ _ (by decide) (by decide), ?_, ?_⟩
    · unfold ok_X7_runRule ok_X7_runRule_23 ok_X7_runRule_104 ok_X4_top
      rw [er, if_pos w, sA_1, hD]
      refine ⟨eo, vp_in_nI hr (by omega), ?_, vp_in_nI hr (by omega), trivial⟩
      by_cases q : D = 0
      · rw [if_pos ((d_le0 h8).mpr q)]
        trivial
      · rw [if_neg (fun z => q ((d_le0 h8).mp z)), d_m1 (by omega)]
        exact ⟨vp_in_nI (by omega) (by omega), trivial⟩
    · refine e5 ?_
      unfold ok_X8_runs_84 ok_X8_runs_147
      rw [if_pos wm, hM]
      refine ⟨vp_in_nI hr (by omega), ?_⟩
      by_cases q : D = 0
      · rw [if_pos ((d_le0 h8).mpr q)]
        exact ⟨vp_in_nI hr (by omega), trivial⟩
      · rw [if_neg (fun z => q ((d_le0 h8).mp z)), d_m1 (by omega)]
        exact ⟨vp_in_nI (by omega) (by omega), vp_in_nI hr (by omega), trivial⟩
  · -- it failed
    have w3 : C1.1 1045 = 1 ∨ C1.1 1045 = 2 ∨ C1.1 1045 = 3 := s5.resolve_left w
    have wm : ¬ M1.1 1045 ≤ 0 := by rw [s1.i 1045]; exact (z_pos w3).2
    obtain ⟨q1, q2, q3, q4, q5, q6, q7, q8⟩ := tell_sim (C := sA C1 8 r (nI n)) (M := sA M1 8 r (nI n)) (c := c) (x1 := nI r) hS8 hF8 hT u686
    have k1 : (sA C1 8 r (nI n)).1 1045 = C1.1 1045 := rfl
    have k2 : (sA C1 8 r (nI n)).1 1043 = C1.1 1043 := rfl
    rw [k1, k2] at q1 q2 q3 q5 q7
    generalize hC2 : rs_X3_tell (sA C1 8 r (nI n)) (nI r) (C1.1 1045) (C1.1 1043) (nI c) = C2 at *
    generalize hM2 : rs_X8_fails (sA M1 8 r (nI n)) (nI r) = M2 at *
    have v686 : M2.1 686 = nI c := (q6.1 686 (by decide)).trans u686
    have ec : rs_X7_runRule C (nI r) (nI c) = (0, sA C2 23 c (C2.2 23 c ||| ((1 : Int32) <<< (nI r &&& 31)))) := by
      unfold rs_X7_runRule rs_X7_runRule_23
      rw [er, if_neg w, s2, r8, hC2]
      unfold rs_X7_runRule_72
      rw [c8]
    have emm : rs_X8_runs M (nI r) = (0, sA M2 23 c (M2.2 23 c ||| ((1 : Int32) <<< (nI r &&& 31)))) := by
      rw [em]
      unfold rs_X8_runs_84
      rw [if_neg wm, r8, hM2]
      unfold rs_X8_runs_103
      rw [v686, c8]
    refine ⟨0, _, _, T + 1, ec, emm, Or.inl rfl, ?_, ⟨q2.1, q2.2.1, q2.2.2⟩, by omega, ((fc.wA 8 _ _ (by decide) (by decide)).tr q5).w23 _, ((fm.wA 8 _ _ (by decide) (by decide)).tr q6).w23 _, ?_, ?_⟩
    · rw [q1.a 23]
      exact q1.wA _ _ _
    · unfold ok_X7_runRule ok_X7_runRule_23 ok_X7_runRule_72
      rw [er, if_neg w, s2, r8]
      exact ⟨eo, vp_in_nI hr (by omega), q3, vp_in_nI hc (by omega), vp_in_nI hc (by omega), trivial⟩
    · refine e5 ?_
      unfold ok_X8_runs_84 ok_X8_runs_103
      rw [if_neg wm, r8, hM2, v686]
      exact ⟨vp_in_nI hr (by omega), q4, vp_in_nI hc (by omega), vp_in_nI hc (by omega), trivial⟩
