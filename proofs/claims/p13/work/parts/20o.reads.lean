theorem op_op {C M : St} {R K T N t : Nat} (h : Rel C M R K T N t) (x c v : Int32) : OpT (rs_X7_operation C x c v) (rs_X8_operation M x c v) ∧ ok_X7_operation C x c v ∧ ok_X8_operation M x c v := by
  obtain ⟨sh, s18, k1, k2, hK, inv, fr, hT, hS, hN, hn, r23, r22, r6, r687, rd, rp⟩ := id h
  have hR := inv.2.1
  have m127 : M.1 127 = nI R := (sh.i 127).trans inv.1
  have hi : rs_X8_isRule M x = (rs_X7_isBelow x (nI R), M) := by
    unfold rs_X8_isRule rs_X8_isRule_16 rs_X7_isBelow rs_X7_isBelow_13
    rw [m127]
    repeat' split
    all_goals rfl
  have hio : ok_X8_isRule M x := by
    unfold ok_X8_isRule ok_X8_isRule_16
    repeat' split
    all_goals trivial
  have j1 : OpT (rs_X7_operation_22 C) (rs_X8_operation_16 M) := ⟨rfl, fun z => absurd z (show ¬ (1 : Int32) = 0 by decide), ⟨_, _, _, _, _, h.m2000 1⟩⟩
  have j2 : OpT (rs_X7_operation_65 C) (rs_X8_operation_47 M) := ⟨rfl, fun z => absurd z (show ¬ (2 : Int32) = 0 by decide), ⟨_, _, _, _, _, h.m2000 2⟩⟩
  unfold rs_X7_operation rs_X8_operation ok_X7_operation ok_X8_operation rs_X8_operation_5 ok_X8_operation_5
  rw [hi, inv.1, fits_eq]
  dsimp only
  by_cases a : rs_X7_isBelow x (nI R) = 0
  · simp only [if_pos a]
    exact ⟨j1, ⟨below_ok, trivial⟩, hio, trivial, trivial⟩
  · simp only [if_neg a]
    by_cases b : rs_X8_fits c v = 0
    · simp only [if_pos b]
      exact ⟨j1, ⟨below_ok, can_ok, trivial⟩, hio, fit_ok, trivial, trivial⟩
    · obtain ⟨r, hr, er⟩ := below_1 (n := R) (by omega) a
      subst er
      have hop := can_op b
      obtain ⟨L, e, hL, he, h1, h2, h3⟩ := inv.2.2.1 r hr
      have r8 : (nI r).toNatClampNeg = r := cl_n (by omega)
      have e8 : (nI e).toNatClampNeg = e := cl_n (by omega)
      simp only [if_neg b]
      rw [r8, sh.a 6, sh.a 4, h1, h2, e8, sh.a 13]
      by_cases d : L < 16
      · have d1 : ¬ (16 : Int32) ≤ nI L := fun z => absurd ((n_le (a := 16) (by omega) (by omega)).mp z) (by omega)
        have d2 : ¬ nI L = 16 := fun z => absurd ((n_eq (b := 16) (by omega) (by omega)).mp z) (by omega)
        simp only [if_neg d1, if_neg d2]
        have hho : ok_X2_hasStarted C (nI e) := by
          unfold ok_X2_hasStarted
          refine ⟨vp_in_nI he (by omega), ?_⟩
          split <;> trivial
        by_cases f : C.2 13 e = 0
        · have hh : rs_X2_hasStarted C (nI e) = (0, C) := by
            unfold rs_X2_hasStarted
            rw [e8, if_pos f]
          rw [hh]
          simp only [if_pos ((started_0 hS he).mpr f)]
          have u6 : ∀ (S : St) (p j : Nat) (w : Int32), ¬ 6 = p → (sA S p j w).2 6 = S.2 6 := fun S p j w hp => by rw [sA_2, if_neg hp]
          have ap : rs_X5_append C (nI r) c v = (nI (L + 1), sA (sA (sA C 9 (16 * r + L) c) 10 (16 * r + L) v) 6 r (nI (L + 1))) := by
            unfold rs_X5_append rs_X5_append_21 rs_X5_append_29
            simp only [u6 _ 9 _ _ (by decide), u6 _ 10 _ _ (by decide), r8, h1]
            rw [x16 (by omega), nI_add, cl_n (by omega), a1, sA_2, if_pos rfl, upd_at, if_pos rfl]
          have apo : ok_X5_append C (nI r) c v := by
            unfold ok_X5_append ok_X5_append_21 ok_X5_append_29
            rw [r8, h1, x16 (by omega), nI_add]
            exact ⟨vp_in_nI (by omega) (by omega), vp_in_nI (by omega) (by omega), vp_in_nI (by omega) (by omega), vp_in_nI (by omega) (by omega), vp_in_nI (by omega) (by omega), vp_in_nI (by omega) (by omega), trivial⟩
          have l6 : (sI M 2000 0).2 6 r = nI L := by rw [sI_2, sh.a 6]; exact h1
          have mp : rs_X8_operation_58 (sI M 2000 0) (nI r) c v = (nI (L + 1), sA (sA (sA (sI M 2000 0) 9 (16 * r + L) c) 10 (16 * r + L) v) 6 r (nI (L + 1))) := by
            unfold rs_X8_operation_58 rs_X8_operation_75 rs_X8_operation_92
            simp only [u6 _ 9 _ _ (by decide), u6 _ 10 _ _ (by decide), r8, l6]
            rw [ix16 (by omega) (by omega), cl_n (by omega), a1, sA_2, if_pos rfl, upd_at, if_pos rfl]
          have mpo : ok_X8_operation_58 (sI M 2000 0) (nI r) c v := by
            unfold ok_X8_operation_58 ok_X8_operation_75 ok_X8_operation_92
            simp only [u6 _ 9 _ _ (by decide), r8, l6]
            rw [ix16 (by omega) (by omega)]
            exact ⟨vp_in_nI (by omega) (by omega), vp_in_nI (by omega) (by omega), vp_in_nI (by omega) (by omega), vp_in_nI (by omega) (by omega), vp_in_nI (by omega) (by omega), vp_in_nI (by omega) (by omega), vp_in_nI (by omega) (by omega), trivial⟩
          unfold rs_X7_operation_62 ok_X7_operation_62
          simp only [if_true]
          rw [ap, mp]
          refine ⟨⟨rfl, fun _ => rfl, ⟨R, K, T, N, t, ?_⟩⟩, ⟨below_ok, can_ok, vp_in_nI (by omega) (by omega), vp_in_nI (by omega) (by omega), hho, apo, trivial⟩, hio, fit_ok, vp_in_nI (by omega) (by omega), vp_in_nI (by omega) (by omega), vp_in_nI he (by omega), mpo⟩
          refine ⟨(((sh.mI 2000 _ (by decide)).wA _ _ _).wA _ _ _).wA _ _ _, s18, k1, k2, hK, ?_, ⟨fr.1, fr.2.1, fr.2.2⟩, hT, hS, hN, hn, r23, r22, ?_, r687, rd, rp⟩
          · refine ⟨inv.1, hR, fun r' hr' => ?_, inv.2.2.2⟩
            obtain ⟨L', e', hL', he', g1, g2, g3⟩ := inv.2.2.1 r' hr'
            by_cases w : r' = r
            · subst w
              have el : L' = L := (n_eq (by omega) (by omega)).mp (g1.symm.trans h1)
              subst el
              refine ⟨L' + 1, e', by omega, he', ?_, g2, fun t' ht' => ?_⟩
              · show upd (C.2 6) r' (nI (L' + 1)) r' = _
                rw [upd_at, if_pos rfl]
              · show opOK (upd (C.2 9) (16 * r' + L') c (16 * r' + t')) (upd (C.2 10) (16 * r' + L') v (16 * r' + t'))
                rw [upd_at, upd_at]
                by_cases q : t' = L'
                · rw [if_pos (by omega), if_pos (by omega)]
                  exact hop
                · rw [if_neg (by omega), if_neg (by omega)]
                  exact g3 t' (by omega)
            · refine ⟨L', e', hL', he', ?_, g2, fun t' ht' => ?_⟩
              · show upd (C.2 6) r (nI (L + 1)) r' = _
                rw [upd_at, if_neg w]
                exact g1
              · show opOK (upd (C.2 9) (16 * r + L) c (16 * r' + t')) (upd (C.2 10) (16 * r + L) v (16 * r' + t'))
                rw [upd_at, upd_at, if_neg (by omega), if_neg (by omega)]
                exact g3 t' ht'
          · intro r' hr'
            show upd (C.2 6) r (nI (L + 1)) r' = 0
            rw [upd_at, if_neg (by omega)]
            exact r6 r' hr'
        · have hh : rs_X2_hasStarted C (nI e) = (1, C) := by
            unfold rs_X2_hasStarted
            rw [e8, if_neg f]
          rw [hh]
          simp only [if_neg (fun z => f ((started_0 hS he).mp z))]
          unfold rs_X7_operation_62 ok_X7_operation_62
          simp only [one0, if_false]
          exact ⟨j2, ⟨below_ok, can_ok, vp_in_nI (by omega) (by omega), vp_in_nI (by omega) (by omega), hho, trivial⟩, hio, fit_ok, vp_in_nI (by omega) (by omega), vp_in_nI (by omega) (by omega), vp_in_nI he (by omega), trivial, trivial⟩
      · have e16 : L = 16 := by omega
        subst e16
        simp only [if_pos (show (16 : Int32) ≤ nI 16 by decide), if_pos (show nI 16 = 16 by decide)]
        exact ⟨j2, ⟨below_ok, can_ok, vp_in_nI (by omega) (by omega), trivial⟩, hio, fit_ok, vp_in_nI (by omega) (by omega), trivial, trivial⟩
