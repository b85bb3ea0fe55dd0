/-! rule, operation -/
theorem cnt_upd (f : Nat → Int32) (v e : Int32) : ∀ (n R : Nat), n ≤ R → cnt (upd f R v) e n = cnt f e n := by
  intro n
  induction n with
  | zero => intro R h; rfl
  | succ n ih =>
    intro R h
    rw [cnt, cnt, ih R (by omega), upd_at, if_neg (show ¬ n = R by omega)]
theorem started_0 {C : St} {j : Nat} (hS : StOK C) (hj : j < 4) : C.2 13 j ≤ 0 ↔ C.2 13 j = 0 := by
  rcases hS j hj with z | z | z <;> rw [z] <;> decide
theorem rule_op {C M : St} {R K T N t : Nat} (h : Rel C M R K T N t) (x y : Int32) : OpT (rs_X7_rule C x y) (rs_X8_rule M x y) ∧ ok_X7_rule C x y ∧ ok_X8_rule M x y := by
  obtain ⟨sh, s18, k1, k2, hK, inv, fr, hT, hS, hN, hn, r23, r22, r6, r687, rd, rp⟩ := id h
  have hR := inv.2.1
  have m127 : M.1 127 = nI R := (sh.i 127).trans inv.1
  unfold rs_X7_rule rs_X8_rule ok_X7_rule ok_X8_rule rs_X7_rule_41 ok_X7_rule_41 rs_X8_rule_12 ok_X8_rule_12 rs_X8_rule_31 ok_X8_rule_31 rs_X8_rule_36 ok_X8_rule_36
  rw [four_eq, inv.1, m127]
  by_cases a : rs_X8_isFour x = 0
  · simp only [if_pos a]
    exact ⟨⟨rfl, fun z => absurd z (show ¬ (1 : Int32) = 0 by decide), ⟨_, _, _, _, _, h.m2000 1⟩⟩, ⟨below_ok, trivial⟩, four_ok, trivial, trivial⟩
  · simp only [if_neg a]
    obtain ⟨e, he, ee⟩ := below_1 (n := 4) (by omega) (show ¬ rs_X7_isBelow x 4 = 0 from a)
    by_cases b : R < 12
    · have b1 : ¬ (12 : Int32) ≤ nI R := fun z => absurd ((n_le (a := 12) (by omega) (by omega)).mp z) (by omega)
      have b2 : ¬ nI R = 12 := fun z => absurd ((n_eq (b := 12) (by omega) (by omega)).mp z) (by omega)
      simp only [if_neg b1, if_neg b2]
      subst ee
      have e8 : (nI e).toNatClampNeg = e := cl_n (by omega)
      have hho : ok_X2_hasStarted C (nI e) := by
        unfold ok_X2_hasStarted
        refine ⟨vp_in_nI he (by omega), ?_⟩
        split <;> trivial
      rw [e8, sh.a 13]
      by_cases d : C.2 13 e = 0
      · have hh : rs_X2_hasStarted C (nI e) = (0, C) := by
          unfold rs_X2_hasStarted
          rw [e8, if_pos d]
        rw [hh]
        simp only [if_pos ((started_0 hS he).mpr d)]
        unfold rs_X7_rule_38 ok_X7_rule_38 rs_X7_rule_73 ok_X7_rule_73 rs_X5_add ok_X5_add rs_X5_add_12 ok_X5_add_12 rs_X5_add_19 ok_X5_add_19 rs_X8_rule_42 ok_X8_rule_42 rs_X8_rule_52 ok_X8_rule_52 rs_X8_rule_62 ok_X8_rule_62
        simp only [if_true, e8, sA_1]
        rw [inv.1, show (sI M 2000 0).1 127 = nI R from m127, cl_n (by omega), a1, nI_pred]
        refine ⟨⟨rfl, fun _ => rfl, ⟨R + 1, K, T, N, t, ?_⟩⟩, ⟨below_ok, hho, vp_in_nI he (by omega), vp_in_nI he (by omega), ⟨vp_in_nI b (by omega), vp_in_nI b (by omega), trivial⟩, trivial⟩, four_ok, vp_in_nI he (by omega), vp_in_nI b (by omega), vp_in_nI b (by omega), trivial⟩
        refine ⟨((((sh.mI 2000 _ (by decide)).cA 14 _ _ (by decide)).wA _ _ _).wA _ _ _).wI _ _, s18, k1, k2, hK, ?_, ⟨fr.1, fr.2.1, fr.2.2⟩, hT, hS, ?_, hn, r23, r22, fun r hr => r6 r (by omega), r687, rd, rp⟩
        · refine ⟨rfl, by omega, fun r hr => ?_, inv.2.2.2⟩
          by_cases w : r = R
          · subst w
            exact ⟨0, e, by omega, he, r6 r (Nat.le_refl _), by show upd (C.2 4) r (nI e) r = nI e; rw [upd_at, if_pos rfl], fun t ht => absurd ht (by omega)⟩
          · obtain ⟨L, e', hL, he', h1, h2, h3⟩ := inv.2.2.1 r (by omega)
            exact ⟨L, e', hL, he', h1, by show upd (C.2 4) R (nI e) r = nI e'; rw [upd_at, if_neg w]; exact h2, h3⟩
        · intro j hj
          show upd (C.2 14) e (C.2 14 e + 1) j = nI (cnt (upd (C.2 4) R (nI e)) (nI j) (R + 1))
          rw [cnt, cnt_upd _ _ _ R R (Nat.le_refl _), upd_at, upd_at, if_pos rfl]
          by_cases w : j = e
          · subst w
            rw [if_pos rfl, if_pos rfl, hN j hj, a1]
          · rw [if_neg w, if_neg (fun z => w ((e_eq he hj).mp z).symm), hN j hj]
            rfl
      · have hh : rs_X2_hasStarted C (nI e) = (1, C) := by
          unfold rs_X2_hasStarted
          rw [e8, if_neg d]
        rw [hh]
        simp only [if_neg (fun z => d ((started_0 hS he).mp z))]
        unfold rs_X7_rule_38 ok_X7_rule_38 rs_X7_rule_41 ok_X7_rule_41
        simp only [one0, if_false]
        exact ⟨⟨rfl, fun z => absurd z (show ¬ (2 : Int32) = 0 by decide), ⟨_, _, _, _, _, h.m2000 2⟩⟩, ⟨below_ok, hho, trivial⟩, four_ok, vp_in_nI he (by omega), trivial, trivial⟩
    · have e12 : R = 12 := by omega
      subst e12
      simp only [if_pos (show (12 : Int32) ≤ nI 12 by decide), if_pos (show nI 12 = 12 by decide)]
      exact ⟨⟨rfl, fun z => absurd z (show ¬ (2 : Int32) = 0 by decide), ⟨_, _, _, _, _, h.m2000 2⟩⟩, ⟨below_ok, trivial⟩, four_ok, trivial, trivial⟩
theorem fits_eq (c v : Int32) : rs_X7_canBe c v = rs_X8_fits c v := by
  unfold rs_X7_canBe rs_X8_fits rs_X8_fits_44 rs_X8_fits_72 rs_X7_canBe_56 rs_X7_canBe_91
  rw [num_eq, ← in_below (x := v) (m := 7) (n := 8) (by decide)]
  by_cases a : c = 0
  · rw [if_pos a, if_pos a]
  · rw [if_neg a, if_neg a]
    by_cases b : c = 1
    · rw [if_pos b, if_pos b]
    · rw [if_neg b, if_neg b]
      by_cases d : c = 10
      · rw [if_pos d, if_pos d]; rfl
      · rw [if_neg d, if_neg d]
        by_cases e : c = 11
        · rw [if_pos e, if_pos e]; rfl
        · rw [if_neg e, if_neg e]
          unfold rs_X8_in rs_X8_in_14
          by_cases f : c < 2
          · rw [if_pos f, if_pos f, if_pos rfl]
          · rw [if_neg f, if_neg f]
            by_cases g : 12 < c
            · rw [if_pos g, if_pos g, if_pos rfl]
            · rw [if_neg g, if_neg g, if_neg (show ¬ (1 : Int32) = 0 by decide)]
theorem can_ok {c v : Int32} : ok_X7_canBe c v := by
  unfold ok_X7_canBe ok_X7_canBe_56 ok_X7_canBe_91 ok_X7_canBe_70
  repeat' split
  all_goals first | trivial | exact ⟨num_ok, zb (in01 _ _ _), trivial⟩ | exact ⟨below_ok, zb (below01 _ _), trivial⟩
theorem fit_ok {c v : Int32} : ok_X8_fits c v := by
  unfold ok_X8_fits ok_X8_fits_44 ok_X8_fits_72
  split
  · exact ⟨in_ok, zb (in01 _ _ _), trivial⟩
  · split
    · exact ⟨in_ok, zb (in01 _ _ _), trivial⟩
    · split
      · exact ⟨in_ok, zb (in01 _ _ _), trivial⟩
      · split
        · exact ⟨in_ok, zb (in01 _ _ _), trivial⟩
        · refine ⟨in_ok, ?_⟩
          repeat' split
          all_goals trivial
theorem goto_ok {v : Int32} (h : ¬ rs_X8_in v 0 16 = 0) : ∃ j, j ≤ 16 ∧ v = nI j := by
  rw [in_below (x := v) (m := 16) (n := 17) (by decide)] at h
  obtain ⟨j, hj, e⟩ := below_1 (n := 17) (by omega) h
  exact ⟨j, by omega, e⟩
theorem can_op {c v : Int32} (h : ¬ rs_X8_fits c v = 0) : opOK c v := by
  unfold rs_X8_fits rs_X8_fits_44 rs_X8_fits_72 at h
  by_cases a : c = 0
  · exact Or.inl a
  · rw [if_neg a] at h
    by_cases b : c = 1
    · rw [if_pos b, in_below (x := v) (m := 7) (n := 8) (by decide)] at h
      exact Or.inr (Or.inl ⟨b, below_1 (n := 8) (by omega) h⟩)
    · rw [if_neg b] at h
      by_cases d : c = 10
      · rw [if_pos d] at h
        exact Or.inr (Or.inr (Or.inr (Or.inr (Or.inr (Or.inr (Or.inr (Or.inl ⟨d, goto_ok h⟩)))))))
      · rw [if_neg d] at h
        by_cases e : c = 11
        · rw [if_pos e] at h
          exact Or.inr (Or.inr (Or.inr (Or.inr (Or.inr (Or.inr (Or.inr (Or.inr (Or.inl ⟨e, goto_ok h⟩))))))))
        · rw [if_neg e] at h
          by_cases g : rs_X8_in c 2 12 = 0
          · rw [if_pos g] at h
            exact absurd rfl h
          · unfold rs_X8_in rs_X8_in_14 at g
            by_cases f : c < 2
            · rw [if_pos f] at g
              exact absurd rfl g
            · rw [if_neg f] at g
              by_cases i : 12 < c
              · rw [if_pos i] at g
                exact absurd rfl g
              · have t2 : (2 : Int32).toInt = 2 := by decide
                have t0 : (0 : Int32).toInt = 0 := by decide
                have g0 : ¬ c < 0 := by
                  rw [li] at f ⊢
                  omega
                have g12 : c ≤ 12 := by
                  rw [li] at i
                  rw [lei]
                  omega
                obtain ⟨j, hj, ej⟩ := nI_of2 (x := c) (M := 12) (n := 12) (by decide) g0 g12
                subst ej
                unfold opOK
                match j, hj, a, b, d, e, f with
                | 0, _, a, _, _, _, _ => exact absurd rfl a
                | 1, _, _, b, _, _, _ => exact absurd rfl b
                | 2, _, _, _, _, _, _ => exact Or.inr (Or.inr (Or.inl rfl))
                | 3, _, _, _, _, _, _ => exact Or.inr (Or.inr (Or.inr (Or.inl rfl)))
                | 4, _, _, _, _, _, _ => exact Or.inr (Or.inr (Or.inr (Or.inr (Or.inl (Or.inl rfl)))))
                | 5, _, _, _, _, _, _ => exact Or.inr (Or.inr (Or.inr (Or.inr (Or.inl (Or.inr (Or.inl rfl))))))
                | 6, _, _, _, _, _, _ => exact Or.inr (Or.inr (Or.inr (Or.inr (Or.inl (Or.inr (Or.inr (Or.inl rfl)))))))
                | 7, _, _, _, _, _, _ => exact Or.inr (Or.inr (Or.inr (Or.inr (Or.inr (Or.inl rfl)))))
                | 8, _, _, _, _, _, _ => exact Or.inr (Or.inr (Or.inr (Or.inr (Or.inr (Or.inr (Or.inl rfl))))))
                | 9, _, _, _, _, _, _ => exact Or.inr (Or.inr (Or.inr (Or.inr (Or.inl (Or.inr (Or.inr (Or.inr rfl)))))))
                | 10, _, _, _, d, _, _ => exact absurd rfl d
                | 11, _, _, _, _, e, _ => exact absurd rfl e
                | 12, _, _, _, _, _, _ => exact Or.inr (Or.inr (Or.inr (Or.inr (Or.inr (Or.inr (Or.inr (Or.inr (Or.inr rfl))))))))
                | n + 13, hj, _, _, _, _, _ => exact absurd hj (by omega)
