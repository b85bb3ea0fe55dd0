/-! THE SMALL CALLS: field, tape, share, cap, rule, operation -/
theorem in_below {x m n : Int32} (h : n.toInt = m.toInt + 1) : rs_X8_in x 0 m = rs_X7_isBelow x n := by
  unfold rs_X8_in rs_X7_isBelow rs_X8_in_14 rs_X7_isBelow_13
  by_cases a : x < 0
  · rw [if_pos a, if_pos a]
  · rw [if_neg a, if_neg a]
    by_cases b : m < x
    · rw [if_pos b, if_pos (by rw [lei]; rw [li] at b; omega)]
    · rw [if_neg b, if_neg (by rw [lei]; rw [li] at b; omega)]
theorem in_ok {x y z : Int32} : ok_X8_in x y z := by
  unfold ok_X8_in ok_X8_in_14
  repeat' split
  all_goals trivial
theorem num_eq (x : Int32) : rs_X7_isNumber x = rs_X8_in x (-1000) 1000 := rfl
theorem num_ok {x : Int32} : ok_X7_isNumber x := by
  unfold ok_X7_isNumber ok_X7_isNumber_18
  repeat' split
  all_goals trivial
theorem in01 (x y z : Int32) : rs_X8_in x y z = 0 ∨ rs_X8_in x y z = 1 := by
  unfold rs_X8_in rs_X8_in_14
  split
  · exact Or.inl rfl
  · split
    · exact Or.inl rfl
    · exact Or.inr rfl
theorem below01 (x y : Int32) : rs_X7_isBelow x y = 0 ∨ rs_X7_isBelow x y = 1 := by
  unfold rs_X7_isBelow rs_X7_isBelow_13
  split
  · exact Or.inl rfl
  · split
    · exact Or.inl rfl
    · exact Or.inr rfl
theorem zb {x : Int32} (h : x = 0 ∨ x = 1) : narrow .boolean (.int x) = .int x := by
  rcases h with rfl | rfl <;> rfl
theorem Rel.w1 {C M : St} {R K T N t : Nat} (h : Rel C M R K T N t) (j : Nat) (v : Int32) : Rel (sA C 1 j v) (sA M 1 j v) R K T N t := by
  obtain ⟨a, b, c, d, e, f, g, i1, i2, i3, i4, i5⟩ := h
  exact ⟨a.wA _ _ _, b, c, d, e, f.eq rfl rfl rfl rfl rfl rfl, ⟨g.1, g.2.1, g.2.2⟩, i1, i2, i3, i4, i5⟩
theorem Rel.w2 {C M : St} {R K T N t : Nat} (h : Rel C M R K T N t) (j : Nat) (v : Int32) : Rel (sA C 2 j v) (sA M 2 j v) R K T N t := by
  obtain ⟨a, b, c, d, e, f, g, i1, i2, i3, i4, i5⟩ := h
  exact ⟨a.wA _ _ _, b, c, d, e, f.eq rfl rfl rfl rfl rfl rfl, ⟨g.1, g.2.1, g.2.2⟩, i1, i2, i3, i4, i5⟩
theorem Rel.wsh {C M : St} {R K T N t : Nat} (h : Rel C M R K T N t) (u v : Int32) : Rel (sI (sI C 603 u) 604 v) (sI (sI M 603 u) 604 v) R K T N t := by
  obtain ⟨a, b, c, d, e, f, g, i1, i2, i3, i4, i5⟩ := h
  exact ⟨(a.wI _ _).wI _ _, b, c, d, e, f.eq rfl rfl rfl rfl rfl rfl, ⟨g.1, g.2.1, g.2.2⟩, i1, i2, i3, i4, i5⟩
theorem field_sim {C M : St} {R K T N t : Nat} (h : Rel C M R K T N t) (x y : Int32) : OpN (rs_X7_field C x y) (rs_X8_field M x y) ∧ ok_X7_field C x y ∧ ok_X8_field M x y := by
  have h0 := h.m2000 0
  unfold rs_X7_field rs_X8_field rs_X8_field_5 rs_X7_field_16 rs_X8_field_28 ok_X7_field ok_X8_field ok_X8_field_5 ok_X7_field_16 ok_X8_field_28
  rw [in_below (x := x) (m := 7) (n := 8) (by decide), num_eq]
  by_cases a : rs_X7_isBelow x 8 = 0
  · rw [if_pos a, if_pos a, if_pos a, if_pos a]
    exact ⟨⟨rfl, _, _, _, _, _, h0⟩, ⟨below_ok, trivial⟩, in_ok, trivial⟩
  · rw [if_neg a, if_neg a, if_neg a, if_neg a]
    by_cases b : rs_X8_in y (-1000) 1000 = 0
    · simp only [if_pos b]
      exact ⟨⟨rfl, _, _, _, _, _, h0⟩, ⟨below_ok, num_ok, trivial⟩, in_ok, in_ok, trivial⟩
    · obtain ⟨j, hj, e⟩ := below_1 (n := 8) (by omega) a
      simp only [if_neg b]
      rw [e]
      exact ⟨⟨rfl, _, _, _, _, _, h0.w1 _ _⟩, ⟨below_ok, num_ok, vp_in_nI hj (by omega), trivial⟩, in_ok, in_ok, vp_in_nI hj (by omega), trivial⟩
theorem cap_sim {C M : St} {R K T N t : Nat} (h : Rel C M R K T N t) (x y : Int32) : OpN (rs_X7_cap C x y) (rs_X8_cap M x y) ∧ ok_X7_cap C x y ∧ ok_X8_cap M x y := by
  have h0 := h.m2000 0
  unfold rs_X7_cap rs_X8_cap rs_X8_cap_5 rs_X7_cap_18 rs_X8_cap_22 ok_X7_cap ok_X8_cap ok_X8_cap_5 ok_X7_cap_18 ok_X8_cap_22
  rw [← four_eq]
  by_cases a : rs_X7_isBelow x 4 = 0
  · rw [if_pos a, if_pos a, if_pos a, if_pos a]
    exact ⟨⟨rfl, _, _, _, _, _, h0⟩, ⟨below_ok, trivial⟩, four_ok, trivial⟩
  · obtain ⟨j, hj, e⟩ := below_1 (n := 4) (by omega) a
    rw [if_neg a, if_neg a, if_neg a, if_neg a]
    by_cases b : y < 0
    · have i : rs_X8_in y 0 20 = 0 := by unfold rs_X8_in; rw [if_pos b]; rfl
      rw [if_pos b, if_pos b, if_pos i, if_pos i]
      exact ⟨⟨rfl, _, _, _, _, _, h0⟩, ⟨below_ok, trivial⟩, four_ok, in_ok, trivial⟩
    · rw [if_neg b, if_neg b]
      by_cases d : y ≤ 20
      · have i : ¬ rs_X8_in y 0 20 = 0 := by
          unfold rs_X8_in
          rw [if_neg b, if_neg (by rw [li]; rw [lei] at d; omega)]
          decide
        rw [if_pos d, if_pos d, if_neg i, if_neg i, e]
        exact ⟨⟨rfl, _, _, _, _, _, h0.w2 _ _⟩, ⟨below_ok, vp_in_nI hj (by omega), trivial⟩, four_ok, in_ok, vp_in_nI hj (by omega), trivial⟩
      · have i : rs_X8_in y 0 20 = 0 := by
          unfold rs_X8_in
          rw [if_neg b, if_pos (by rw [li]; rw [lei] at d; omega)]
          rfl
        rw [if_neg d, if_neg d, if_pos i, if_pos i]
        exact ⟨⟨rfl, _, _, _, _, _, h0⟩, ⟨below_ok, trivial⟩, four_ok, in_ok, trivial⟩
theorem share_sim {C M : St} {R K T N t : Nat} (h : Rel C M R K T N t) (x y : Int32) : OpN (rs_X7_share C x y) (rs_X8_share M x y) ∧ ok_X7_share C x y ∧ ok_X8_share M x y := by
  have h0 := h.m2000 0
  unfold rs_X7_share rs_X7_share_9 rs_X8_share rs_X8_share_5 rs_X8_share_25 rs_X8_share_32 ok_X7_share ok_X7_share_9 ok_X8_share ok_X8_share_5 ok_X8_share_25 ok_X8_share_32 rs_X6_setShare ok_X6_setShare rs_X6_setShare_21 rs_X6_setShare_28 ok_X6_setShare_21 ok_X6_setShare_28
  by_cases a : y < 1
  · have i : rs_X8_in y 1 1000 = 0 := by unfold rs_X8_in; rw [if_pos a]; rfl
    simp only [if_pos a, if_pos i]
    exact ⟨⟨rfl, _, _, _, _, _, h0⟩, ⟨trivial, rfl, trivial⟩, in_ok, trivial⟩
  · by_cases b : 1000 < y
    · have i : rs_X8_in y 1 1000 = 0 := by unfold rs_X8_in; rw [if_neg a, if_pos b]; rfl
      simp only [if_neg a, if_pos b, if_pos i]
      exact ⟨⟨rfl, _, _, _, _, _, h0⟩, ⟨trivial, rfl, trivial⟩, in_ok, trivial⟩
    · have i : ¬ rs_X8_in y 1 1000 = 0 := by unfold rs_X8_in; rw [if_neg a, if_neg b]; decide
      by_cases d : x < 0
      · have j : rs_X8_in x 0 y = 0 := by unfold rs_X8_in; rw [if_pos d]; rfl
        simp only [if_neg a, if_neg b, if_pos d, if_neg i, if_pos j]
        exact ⟨⟨rfl, _, _, _, _, _, h0⟩, ⟨trivial, rfl, trivial⟩, in_ok, in_ok, trivial⟩
      · by_cases f : x ≤ y
        · have j : ¬ rs_X8_in x 0 y = 0 := by
            unfold rs_X8_in
            rw [if_neg d, if_neg (by rw [li]; rw [lei] at f; omega)]
            decide
          simp only [if_neg a, if_neg b, if_neg d, if_pos f, if_neg i, if_neg j]
          exact ⟨⟨rfl, _, _, _, _, _, h0.wsh _ _⟩, ⟨trivial, rfl, trivial⟩, in_ok, in_ok, trivial⟩
        · have j : rs_X8_in x 0 y = 0 := by
            unfold rs_X8_in
            rw [if_neg d, if_pos (by rw [li]; rw [lei] at f; omega)]
            rfl
          simp only [if_neg a, if_neg b, if_neg d, if_neg f, if_neg i, if_pos j]
          exact ⟨⟨rfl, _, _, _, _, _, h0⟩, ⟨trivial, rfl, trivial⟩, in_ok, in_ok, trivial⟩
theorem tape_sim {C M : St} {R K T N t : Nat} (h : Rel C M R K T N t) (x : Int32) : OpN (rs_X7_tape C x) (rs_X8_tape M x) ∧ ok_X7_tape C x ∧ ok_X8_tape M x := by
  have h0 := h.m2000 0
  obtain ⟨a1', a2', a3', a4', a5', a6', a7', i1, i2, i3, ⟨n1, n2, n3, n4⟩, i5⟩ := id h0
  have m1 : (sI M 2000 0).1 601 = nI N := (a1'.i 601).trans n1
  unfold rs_X7_tape rs_X7_tape_8 rs_X8_tape rs_X8_tape_5 rs_X8_tape_25 rs_X8_tape_37 ok_X7_tape ok_X7_tape_8 ok_X8_tape ok_X8_tape_5 ok_X8_tape_25 ok_X8_tape_37 rs_X6_append ok_X6_append rs_X6_append_20 rs_X6_append_32 ok_X6_append_20 ok_X6_append_32
  rw [m1, n1]
  by_cases a : x < 0
  · have i : rs_X8_in x 0 999 = 0 := by unfold rs_X8_in; rw [if_pos a]; rfl
    simp only [if_pos a, if_pos i]
    exact ⟨⟨rfl, _, _, _, _, _, h0⟩, ⟨trivial, rfl, trivial⟩, in_ok, trivial⟩
  · by_cases b : 1000 ≤ x
    · have i : rs_X8_in x 0 999 = 0 := by
        unfold rs_X8_in
        rw [if_neg a, if_pos (by rw [li]; rw [lei] at b; have : (999 : Int32).toInt = 999 := by decide
                                 have : (1000 : Int32).toInt = 1000 := by decide
                                 omega)]
        rfl
      simp only [if_neg a, if_pos b, if_pos i]
      exact ⟨⟨rfl, _, _, _, _, _, h0⟩, ⟨trivial, rfl, trivial⟩, in_ok, trivial⟩
    · have i : ¬ rs_X8_in x 0 999 = 0 := by
        unfold rs_X8_in
        rw [if_neg a, if_neg (by rw [li]; rw [lei] at b; have : (999 : Int32).toInt = 999 := by decide
                                 have : (1000 : Int32).toInt = 1000 := by decide
                                 omega)]
        decide
      by_cases d : N < 60
      · have d1 : nI N < 60 := (n_lt (b := 60) (by omega) (by omega)).mpr d
        have d2 : ¬ nI N = 60 := fun z => absurd ((n_eq (b := 60) (by omega) (by omega)).mp z) (by omega)
        simp only [if_neg a, if_neg b, if_pos d1, if_neg i, if_neg d2]
        refine ⟨⟨rfl, R, K, T, N + 1, t, ?_⟩, ⟨⟨vp_in_nI d (by omega), trivial⟩, rfl, trivial⟩, in_ok, vp_in_nI d (by omega), trivial⟩
        simp only [sA_1]
        rw [m1, n1, a1]
        exact ⟨(a1'.wA _ _ _).wI _ _, a2', a3', a4', a5', a6'.eq rfl rfl rfl rfl rfl rfl, ⟨a7'.1, a7'.2.1, a7'.2.2⟩, i1, i2, i3, ⟨rfl, by omega, n3, by omega⟩, i5⟩
      · have d1 : ¬ nI N < 60 := fun z => d ((n_lt (b := 60) (by omega) (by omega)).mp z)
        have d2 : nI N = 60 := by rw [show N = 60 by omega]; decide
        simp only [if_neg a, if_neg b, if_neg d1, if_neg i, if_pos d2]
        exact ⟨⟨rfl, _, _, _, _, _, h0⟩, ⟨trivial, rfl, trivial⟩, in_ok, trivial⟩
