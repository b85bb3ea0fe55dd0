/-! of, failed, edition, look, count -/
def OpX (zc : Int32 × Int32 × St) (zm : Int32 × St) : Prop := (zc.1 = 0 ∨ zc.1 = 3) ∧ zm.2.1 2000 = (if zc.1 = 0 then 0 else 1) ∧ (zc.1 = 0 → zc.2.1 = zm.1) ∧ Sim zc.2.2 zm.2
theorem x_no {C M : St} {R K T N t : Nat} (h : Rel C M R K T N t) : OpX (3, 0, C) (0, sI M 2000 1) := ⟨Or.inr rfl, rfl, fun z => absurd z (show ¬ (3 : Int32) = 0 by decide), ⟨_, _, _, _, _, h.m2000 1⟩⟩
theorem x_yes {C M : St} {R K T N t : Nat} (h : Rel C M R K T N t) {v w : Int32} (e : v = w) : OpX (0, v, C) (w, sI M 2000 0) := ⟨Or.inl rfl, rfl, fun _ => e, ⟨_, _, _, _, _, h.m2000 0⟩⟩
theorem ib_lt {x y : Int32} : rs_X7_isBelow x y = 0 ↔ (x < 0 ∨ y ≤ x) := by
  unfold rs_X7_isBelow rs_X7_isBelow_13
  by_cases a : x < 0
  · rw [if_pos a]
    exact ⟨fun _ => Or.inl a, fun _ => rfl⟩
  · rw [if_neg a]
    by_cases b : y ≤ x
    · rw [if_pos b]
      exact ⟨fun _ => Or.inr b, fun _ => rfl⟩
    · rw [if_neg b]
      exact ⟨fun z => absurd z (by decide), fun z => z.elim (fun q => absurd q a) (fun q => absurd q b)⟩
theorem of_sim {C M : St} {R K T N t : Nat} (h : Rel C M R K T N t) (x y : Int32) : OpX (rs_X7_of C x y) (rs_X8_of M x y) ∧ ok_X7_of C x y ∧ ok_X8_of M x y := by
  obtain ⟨sh, s18, k1, k2, hK, inv, fr, hT, hS, hN, hn, rest⟩ := id h
  have nope : OpX (rs_X7_of_22 C) (rs_X8_of_21 M) := x_no h
  unfold rs_X7_of rs_X8_of ok_X7_of ok_X8_of
  rw [k1, k2, in_below (x := y) (m := 4) (n := 5) (by decide)]
  by_cases a : x < 0
  · have i : rs_X7_isBelow x (nI K) = 0 := ib_lt.mpr (Or.inl a)
    simp only [if_pos a, if_pos i]
    exact ⟨nope, ⟨below_ok, trivial⟩, trivial, trivial⟩
  · by_cases b : nI K ≤ x
    · have i : rs_X7_isBelow x (nI K) = 0 := ib_lt.mpr (Or.inr b)
      simp only [if_neg a, if_pos b, if_pos i]
      exact ⟨nope, ⟨below_ok, trivial⟩, trivial, trivial⟩
    · have i : ¬ rs_X7_isBelow x (nI K) = 0 := fun z => (ib_lt.mp z).elim a b
      simp only [if_neg a, if_neg b, if_neg i]
      by_cases d : rs_X7_isBelow y 5 = 0
      · simp only [if_pos d]
        exact ⟨nope, ⟨below_ok, below_ok, trivial⟩, in_ok, trivial, trivial⟩
      · simp only [if_neg d]
        obtain ⟨j, hj, e⟩ := below_1 (n := K) (by omega) i
        subst e
        have vi : vp_in (nI j) 40 := vp_in_nI (by omega) (by omega)
        unfold rs_X7_of_41 rs_X0_answer ok_X0_answer
        rw [cl_n (by omega), ← s18, sh.a 19, sh.a 20, sh.a 21, sh.a 22, sh.a 23]
        refine ⟨?_, ⟨below_ok, below_ok, ?_, trivial⟩, in_ok, ?_⟩
        · by_cases y0 : y = 0
          · simp only [if_pos y0]; exact x_yes h rfl
          · by_cases y1 : y = 1
            · simp only [if_neg y0, if_pos y1]; exact x_yes h rfl
            · by_cases y2 : y = 2
              · simp only [if_neg y0, if_neg y1, if_pos y2]
                by_cases u : C.2 22 j = 0
                · simp only [if_pos u]; exact x_yes h rfl
                · simp only [if_neg u]; exact x_yes h rfl
              · by_cases y3 : y = 3
                · simp only [if_neg y0, if_neg y1, if_neg y2, if_pos y3]
                  by_cases u : C.2 21 j = 0
                  · simp only [if_pos u]; exact x_yes h rfl
                  · simp only [if_neg u]; exact x_yes h rfl
                · simp only [if_neg y0, if_neg y1, if_neg y2, if_neg y3]; exact x_yes h rfl
        · repeat' split
          all_goals first | exact ⟨vi, trivial⟩ | exact ⟨vi, vi, trivial⟩
        · repeat' split
          all_goals first | exact ⟨vi, trivial⟩ | exact ⟨vi, vi, trivial⟩
theorem look_sim {C M : St} {R K T N t : Nat} (h : Rel C M R K T N t) (x y : Int32) : OpX (rs_X7_look C x y) (rs_X8_look M x y) ∧ ok_X7_look C x y ∧ ok_X8_look M x y := by
  obtain ⟨sh, s18, k1, k2, hK, inv, fr, hT, hS, hN, hn, rest⟩ := id h
  have hR := inv.2.1
  have m127 : M.1 127 = nI R := (sh.i 127).trans inv.1
  have hi : rs_X8_isRule M x = (rs_X7_isBelow x (nI R), M) := by
    unfold rs_X8_isRule rs_X8_isRule_16 rs_X7_isBelow rs_X7_isBelow_13
    rw [m127]
    repeat' split
    all_goals rfl
  have hio : ok_X8_isRule M x := by
    unfold ok_X8_isRule ok_X8_isRule_16
    repeat' split
    all_goals trivial
  have nope : OpX (rs_X7_look_22 C) (rs_X8_look_17 M) := x_no h
  unfold rs_X7_look rs_X8_look ok_X7_look ok_X8_look rs_X8_look_5 ok_X8_look_5
  rw [hi, inv.1, in_below (x := y) (m := 4) (n := 5) (by decide)]
  dsimp only
  by_cases i : rs_X7_isBelow x (nI R) = 0
  · simp only [if_pos i]
    exact ⟨nope, ⟨below_ok, trivial⟩, hio, trivial, trivial⟩
  · simp only [if_neg i]
    by_cases d : rs_X7_isBelow y 5 = 0
    · simp only [if_pos d]
      exact ⟨nope, ⟨below_ok, below_ok, trivial⟩, hio, in_ok, trivial, trivial⟩
    · simp only [if_neg d]
      obtain ⟨j, hj, e⟩ := below_1 (n := R) (by omega) i
      subst e
      have vi : vp_in (nI j) 12 := vp_in_nI (by omega) (by omega)
      unfold rs_X7_look_41 rs_X5_answer ok_X5_answer
      rw [cl_n (by omega), sh.a 4, sh.a 5, sh.a 6, sh.a 7, sh.a 8]
      refine ⟨?_, ⟨below_ok, below_ok, ?_, trivial⟩, hio, in_ok, ?_⟩
      · by_cases y0 : y = 0
        · simp only [if_pos y0]; exact x_yes h rfl
        · by_cases y1 : y = 1
          · simp only [if_neg y0, if_pos y1]
            by_cases u : C.2 5 j = 0
            · simp only [if_pos u]; exact x_yes h rfl
            · simp only [if_neg u]; exact x_yes h rfl
          · by_cases y2 : y = 2
            · simp only [if_neg y0, if_neg y1, if_pos y2]; exact x_yes h rfl
            · by_cases y3 : y = 3
              · simp only [if_neg y0, if_neg y1, if_neg y2, if_pos y3]; exact x_yes h rfl
              · simp only [if_neg y0, if_neg y1, if_neg y2, if_neg y3]; exact x_yes h rfl
      · repeat' split
        all_goals exact ⟨vi, trivial⟩
      · repeat' split
        all_goals exact ⟨vi, trivial⟩
theorem ed_sim {C M : St} {R K T N t : Nat} (h : Rel C M R K T N t) (x y : Int32) : OpX (rs_X7_edition C x y) (rs_X8_edition M x y) ∧ ok_X7_edition C x y ∧ ok_X8_edition M x y := by
  obtain ⟨sh, s18, k1, k2, hK, inv, fr, hT, hS, hN, hn, rest⟩ := id h
  have hR := inv.2.1
  have m127 : M.1 127 = nI R := (sh.i 127).trans inv.1
  have nope : OpX (rs_X7_edition_16 C) (rs_X8_edition_16 M) := x_no h
  unfold rs_X7_edition rs_X8_edition ok_X7_edition ok_X8_edition
  rw [← four_eq, in_below (x := y) (m := 2) (n := 3) (by decide)]
  by_cases i : rs_X7_isBelow x 4 = 0
  · simp only [if_pos i]
    exact ⟨nope, ⟨below_ok, trivial⟩, four_ok, trivial, trivial⟩
  · simp only [if_neg i]
    by_cases d : rs_X7_isBelow y 3 = 0
    · simp only [if_pos d]
      exact ⟨nope, ⟨below_ok, below_ok, trivial⟩, four_ok, in_ok, trivial, trivial⟩
    · simp only [if_neg d]
      obtain ⟨j, hj, e⟩ := below_1 (n := 4) (by omega) i
      subst e
      have vi : vp_in (nI j) 4 := vp_in_nI hj (by omega)
      obtain ⟨ro1, ro2⟩ := rulesOf_ok (e := nI j) (M := sI M 2000 0) hR m127
      unfold rs_X7_edition_35 rs_X2_answer ok_X2_answer rs_X8_edition_59
      rw [cl_n (by omega), sh.a 12, sh.a 13, ro1]
      refine ⟨?_, ⟨below_ok, below_ok, ?_, trivial⟩, four_ok, in_ok, ?_⟩
      · by_cases y0 : y = 0
        · simp only [if_pos y0]; exact x_yes h rfl
        · by_cases y1 : y = 1
          · simp only [if_neg y0, if_pos y1]; exact x_yes h rfl
          · simp only [if_neg y0, if_neg y1]
            exact x_yes h (by rw [hN j hj, sI_2, sh.a 4])
      · repeat' split
        all_goals exact ⟨vi, trivial⟩
      · split
        · exact ⟨vi, trivial⟩
        · split
          · exact ⟨vi, trivial⟩
          · exact ⟨ro2, trivial⟩
theorem failed_sim {C M : St} {R K T N t : Nat} (h : Rel C M R K T N t) (x y : Int32) : OpX (rs_X7_failed C x y) (rs_X8_failed M x y) ∧ ok_X7_failed C x y ∧ ok_X8_failed M x y := by
  obtain ⟨sh, s18, k1, k2, hK, inv, ⟨f1, f2, f3⟩, hT, hS, hN, hn, rest⟩ := id h
  have nope : OpX (rs_X7_failed_22 C) (rs_X8_failed_21 M) := x_no h
  have hk : rs_X3_kept C = (nI (min T 60), C) := by
    unfold rs_X3_kept
    rw [f1]
    by_cases z : T < 60
    · rw [if_pos (show nI T < 60 from (n_lt (b := 60) (by omega) (by omega)).mpr z), Nat.min_eq_left (by omega)]
    · rw [if_neg (show ¬ nI T < 60 from fun w => z ((n_lt (b := 60) (by omega) (by omega)).mp w)), Nat.min_eq_right (by omega)]
      rfl
  unfold rs_X7_failed rs_X8_failed ok_X7_failed ok_X8_failed rs_X7_failed_8 ok_X7_failed_8
  rw [hk, f2, in_below (x := y) (m := 3) (n := 4) (by decide)]
  dsimp only
  by_cases a : x < 0
  · have i : rs_X7_isBelow x (nI (min T 60)) = 0 := ib_lt.mpr (Or.inl a)
    simp only [if_pos a, if_pos i]
    exact ⟨nope, ⟨trivial, below_ok, trivial⟩, trivial, trivial⟩
  · by_cases b : nI (min T 60) ≤ x
    · have i : rs_X7_isBelow x (nI (min T 60)) = 0 := ib_lt.mpr (Or.inr b)
      simp only [if_neg a, if_pos b, if_pos i]
      exact ⟨nope, ⟨trivial, below_ok, trivial⟩, trivial, trivial⟩
    · have i : ¬ rs_X7_isBelow x (nI (min T 60)) = 0 := fun z => (ib_lt.mp z).elim a b
      simp only [if_neg a, if_neg b, if_neg i]
      by_cases d : rs_X7_isBelow y 4 = 0
      · simp only [if_pos d]
        exact ⟨nope, ⟨trivial, below_ok, below_ok, trivial⟩, in_ok, trivial, trivial⟩
      · simp only [if_neg d]
        have hm : min T 60 ≤ 60 := Nat.min_le_right _ _
        obtain ⟨j, hj, e⟩ := below_1 (n := min T 60) (by omega) i
        subst e
        obtain ⟨q, hq, ey⟩ := below_1 (n := 4) (by omega) d
        subst ey
        have vi : vp_in (nI j) 60 := vp_in_nI (by omega) (by omega)
        obtain ⟨g0, g1, g2, g3⟩ := f3 j hj
        unfold rs_X7_failed_41 rs_X3_answer ok_X3_answer
        rw [m4, nI_add, cl_n (by omega), cl_n (by omega)]
        refine ⟨?_, ⟨trivial, below_ok, below_ok, ⟨vp_in_nI (by omega) (by omega), trivial⟩, trivial⟩, in_ok, ?_⟩
        · match q, hq with
          | 0, _ => exact x_yes h g0
          | 1, _ => exact x_yes h g1
          | 2, _ => exact x_yes h g2
          | 3, _ => exact x_yes h g3
        · repeat' split
          all_goals exact ⟨vi, trivial⟩
theorem cn_loop {x : Int32} {K : Nat} (hK : K ≤ 40) : ∀ (k : Nat) (M : St) (j g : Nat), j + k = K → k + 1 ≤ g → M.1 686 = nI K → rs_X8_count_35 g M x (nI (dcn (M.2 22) j)) (nI j) = (if x = 0 then (M.1 127, M) else if x = 1 then (M.1 686, M) else if x = 2 then (M.1 2001, M) else if x = 3 then (M.1 601 - M.1 602, M) else if x = 4 then (nI (dcn (M.2 22) K), M) else (-1, M)) ∧ ok_X8_count_35 g M x (nI (dcn (M.2 22) j)) (nI j) := by
  intro k
  induction k with
  | zero =>
    intro M j g hj hg h1
    obtain ⟨g, rfl⟩ : ∃ z, g = z + 1 := ⟨g - 1, by omega⟩
    have e : j = K := by omega
    subst e
    have z : nI j ≤ nI j := (n_le (by omega) (by omega)).mpr (Nat.le_refl _)
    rw [rs_X8_count_35, ok_X8_count_35, h1, if_pos z, if_pos z]
    refine ⟨rfl, ?_⟩
    repeat' split
    all_goals trivial
  | succ k ih =>
    intro M j g hj hg h1
    obtain ⟨g, rfl⟩ : ∃ z, g = z + 1 := ⟨g - 1, by omega⟩
    obtain ⟨i1, i2⟩ := ih M (j + 1) g (by omega) (by omega) h1
    have z : ¬ nI K ≤ nI j := fun w => absurd ((n_le (by omega) (by omega)).mp w) (by omega)
    rw [rs_X8_count_35, ok_X8_count_35, h1, if_neg z, if_neg z, cl_n (by omega)]
    unfold rs_X8_count_58 ok_X8_count_58
    rw [h1, dcn] at i1
    rw [dcn] at i2
    rw [show nI j + 1 = nI (j + 1) from nI_1 j]
    by_cases q : M.2 22 j = 0
    · rw [if_pos q] at i1 i2
      rw [if_pos q, if_pos q, show nI (dcn (M.2 22) j) + 0 = nI (dcn (M.2 22) j + 0) from nI_add _ 0]
      exact ⟨i1, vp_in_nI (by omega) (by omega), i2⟩
    · rw [if_neg q] at i1 i2
      rw [if_neg q, if_neg q, a1]
      exact ⟨i1, vp_in_nI (by omega) (by omega), i2⟩
/-- a count: alike but for the failures beyond 60 (what 2), which the reference doesn't count -/
theorem count_sim {C M : St} {R K T N t : Nat} (h : Rel C M R K T N t) (x : Int32) : ((¬ x = 2 ∨ T ≤ 60) → (rs_X7_count C x).1 = (rs_X8_count M x).1) ∧ Sim (rs_X7_count C x).2 (rs_X8_count M x).2 ∧ ok_X7_count C x ∧ ok_X8_count M x := by
  obtain ⟨sh, s18, k1, k2, hK, inv, ⟨f1, f2, f3⟩, hT, hS, hN, ⟨n1, n2, n3, n4⟩, r23, r22, r6, r687, rd, rp⟩ := id h
  have t10 : (10 : Int32).toInt = 10 := by decide
  have hs : (rs_X7_count C x).2 = C := by
    unfold rs_X7_count rs_X7_count_67 rs_X7_count_84 rs_X6_left rs_X7_fieldValue
    repeat' split
    all_goals rfl
  obtain ⟨c1, c2⟩ := cn_loop (x := x) hK K (sI M 2000 0) 0 100 (by omega) (by omega) k2
  have c1' : rs_X8_count_35 100 (sI M 2000 0) x 0 0 = _ := c1
  have c2' : ok_X8_count_35 100 (sI M 2000 0) x 0 0 := c2
  have hm : (rs_X8_count M x).2 = sI M 2000 0 := by
    unfold rs_X8_count
    rw [c1']
    repeat' split
    all_goals rfl
  have ib : ∀ j : Nat, j < 8 → (x - 10 = nI j ↔ x = nI (j + 10)) := by
    intro j hj
    constructor
    · intro e
      have : x = (x - 10) + 10 := by rw [Int32.sub_add_cancel]
      rw [this, e]
      exact nI_add j 10
    · intro e
      rw [e]
      exact pk_sub (a := j + 10) (b := 10) (by omega)
  refine ⟨fun hx => ?_, by rw [hs, hm]; exact ⟨_, _, _, _, _, h.m2000 0⟩, ?_, ?_⟩
  · unfold rs_X7_count rs_X8_count
    rw [c1']
    unfold rs_X7_count_67 rs_X7_count_84 rs_X6_left rs_X7_fieldValue
    by_cases a : x < 10
    · rw [if_pos a]
      by_cases x0 : x = 0
      · simp only [if_pos x0]; exact (sh.i 127).symm
      · by_cases x1 : x = 1
        · simp only [if_neg x0, if_pos x1]; exact k1.trans k2.symm
        · by_cases x2 : x = 2
          · have hT6 : T ≤ 60 := hx.resolve_left (fun z => z x2)
            simp only [if_neg x0, if_neg x1, if_pos x2]
            show C.1 961 = M.1 2001
            rw [f1, f2, Nat.min_eq_left hT6]
          · by_cases x3 : x = 3
            · simp only [if_neg x0, if_neg x1, if_neg x2, if_pos x3]
              show C.1 601 - C.1 602 = M.1 601 - M.1 602
              rw [sh.i 601, sh.i 602]
            · by_cases x4 : x = 4
              · simp only [if_neg x0, if_neg x1, if_neg x2, if_neg x3, if_pos x4]
                show C.1 687 = nI (dcn (M.2 22) K)
                rw [sh.a 22]
                exact r687
              · simp only [if_neg x0, if_neg x1, if_neg x2, if_neg x3, if_neg x4]
                have i : rs_X7_isBelow (x - 10) 8 = 0 := by
                  by_cases w : rs_X7_isBelow (x - 10) 8 = 0
                  · exact w
                  · obtain ⟨j, hj, e⟩ := below_1 (n := 8) (by omega) w
                    rw [(ib j hj).mp e] at a
                    exact absurd ((n_lt (b := 10) (by omega) (by omega)).mp a) (by omega)
                rw [if_pos i]
    · rw [if_neg a]
      have ne (k : Int32) (hk : k < 10) : ¬ x = k := fun e => a (e ▸ hk)
      simp only [if_neg (ne 0 (by decide)), if_neg (ne 1 (by decide)), if_neg (ne 2 (by decide)), if_neg (ne 3 (by decide)), if_neg (ne 4 (by decide))]
      by_cases b : 18 ≤ x
      · rw [if_pos b]
        have i : rs_X7_isBelow (x - 10) 8 = 0 := by
          by_cases w : rs_X7_isBelow (x - 10) 8 = 0
          · exact w
          · obtain ⟨j, hj, e⟩ := below_1 (n := 8) (by omega) w
            rw [(ib j hj).mp e] at b
            exact absurd ((n_le (a := 18) (by omega) (by omega)).mp b) (by omega)
        rw [if_pos i]
      · rw [if_neg b]
        have t18 : (18 : Int32).toInt = 18 := by decide
        have t17 : (17 : Int32).toInt = 17 := by decide
        have t0 : (0 : Int32).toInt = 0 := by decide
        obtain ⟨j, hj, e⟩ := nI_of2 (x := x) (M := 17) (n := 17) (by decide) (by rw [li] at a ⊢; omega) (by rw [lei] at b ⊢; omega)
        have ge : 10 ≤ j := by
          rcases Nat.lt_or_ge j 10 with w | w
          · exact absurd (by rw [e]; exact (n_lt (b := 10) (by omega) (by omega)).mpr w) a
          · exact w
        have e2 : x - 10 = nI (j - 10) := (ib (j - 10) (by omega)).mpr (by rw [show j - 10 + 10 = j by omega]; exact e)
        have i : ¬ rs_X7_isBelow (x - 10) 8 = 0 := by
          rw [e2]
          intro z
          rcases ib_lt.mp z with w | w
          · exact absurd w (nI_pos (by omega))
          · exact absurd ((n_le (a := 8) (by omega) (by omega)).mp w) (by omega)
        rw [if_neg i, sh.a 1]
  · unfold ok_X7_count ok_X7_count_67 ok_X7_count_84 ok_X6_left ok_X7_fieldValue
    have fo : (ok_X7_isBelow (x - 10) 8 ∧ (if rs_X7_isBelow (x - 10) 8 = 0 then True else (vp_in (x - 10) 8 ∧ True))) ∧ True := by
      refine ⟨⟨below_ok, ?_⟩, trivial⟩
      split
      · trivial
      · next w =>
        obtain ⟨j, hj, e⟩ := below_1 (n := 8) (by omega) w
        rw [e]
        exact ⟨vp_in_nI hj (by omega), trivial⟩
    split
    · trivial
    · split
      · trivial
      · split
        · trivial
        · split
          · exact ⟨trivial, trivial⟩
          · split
            · trivial
            · exact fo
  · unfold ok_X8_count
    split
    · exact c2'
    · next a =>
      split
      · trivial
      · next b =>
        have t18 : (18 : Int32).toInt = 18 := by decide
        have t17 : (17 : Int32).toInt = 17 := by decide
        have t0 : (0 : Int32).toInt = 0 := by decide
        obtain ⟨j, hj, e⟩ := nI_of2 (x := x) (M := 17) (n := 17) (by decide) (by rw [li] at a ⊢; omega) (by rw [lei] at b ⊢; omega)
        have ge : 10 ≤ j := by
          rcases Nat.lt_or_ge j 10 with w | w
          · exact absurd (by rw [e]; exact (n_lt (b := 10) (by omega) (by omega)).mpr w) a
          · exact w
        rw [(ib (j - 10) (by omega)).mpr (by rw [show j - 10 + 10 = j by omega]; exact e)]
        exact ⟨vp_in_nI (by omega) (by omega), trivial⟩
