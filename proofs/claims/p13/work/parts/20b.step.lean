/-! ONE STEP of a rule's run, on both sides -/
theorem sI_id (S : St) (k : Nat) : sI S k (S.1 k) = S := by
  unfold sI
  rw [upd_id]
theorem p_take1 {C : St} {D : Nat} (hD : C.1 1042 = nI D) (h : D ≤ 8) : rs_X4_canTake C 1 = if 1 ≤ D then (1, C) else (0, sI C 1045 3) := p_take (k := 1) (by omega) hD h
theorem p_take2 {C : St} {D : Nat} (hD : C.1 1042 = nI D) (h : D ≤ 8) : rs_X4_canTake C 2 = if 2 ≤ D then (1, C) else (0, sI C 1045 3) := p_take (k := 2) (by omega) hD h
theorem d_m1 {D : Nat} (h : 1 ≤ D) : nI D - 1 = nI (D - 1) := pk_sub (a := D) (b := 1) h
theorem d_m2 {D : Nat} (h : 2 ≤ D) : nI D - 2 = nI (D - 2) := pk_sub (a := D) (b := 2) h
theorem d_0 {D : Nat} (h : D ≤ 8) : nI D = 0 ↔ D = 0 := n_eq (b := 0) (by omega) (by omega)
theorem d_le2 {D : Nat} (h : D ≤ 8) : (2 : Int32) ≤ nI D ↔ 2 ≤ D := n_le (a := 2) (by omega) (by omega)
theorem p_keep {C : St} {D e : Nat} (hD : C.1 1042 = nI D) (h : D ≤ 8) (he : e < 4) : rs_X4_keep C (nI e) = if 1 ≤ D then sI (sA (sI C 1042 (nI (D - 1))) 12 e (C.2 27 (D - 1))) 1043 (C.1 1043 + 1) else sI C 1045 3 := by
  unfold rs_X4_keep
  rw [p_take1 hD h]
  by_cases q : 1 ≤ D
  · rw [if_pos q, if_pos q]
    unfold rs_X4_keep_5
    dsimp only
    rw [if_neg (by decide)]
    unfold rs_X4_keep_18 rs_X4_keep_30
    rw [hD, d_m1 q, cl_n (by omega)]
    simp only [sI_1, sI_2, sA_1, if_true]
    rw [cl_n (by omega)]
    rfl
  · rw [if_neg q, if_neg q]
    unfold rs_X4_keep_5
    rw [if_pos rfl]
theorem o_keep {C : St} {D e : Nat} (hD : C.1 1042 = nI D) (h : D ≤ 8) (he : e < 4) : ok_X4_keep C (nI e) := by
  unfold ok_X4_keep
  refine ⟨o_take, ?_⟩
  rw [p_take1 hD h]
  by_cases q : 1 ≤ D
  · rw [if_pos q]
    unfold ok_X4_keep_5
    dsimp only
    rw [if_neg (by decide)]
    unfold ok_X4_keep_18
    rw [hD, d_m1 q]
    simp only [sI_1, if_true]
    exact ⟨vp_in_nI (by omega) (by omega), vp_in_nI he (by omega), trivial⟩
  · rw [if_neg q]
    unfold ok_X4_keep_5
    rw [if_pos rfl]
    trivial
theorem p_ifz {C : St} {D : Nat} (v : Int32) (hD : C.1 1042 = nI D) (h : D ≤ 8) : rs_X4_goIfZero C v = if 1 ≤ D then sI (sI C 1042 (nI (D - 1))) 1043 (if C.2 27 (D - 1) = 0 then v else C.1 1043 + 1) else sI C 1045 3 := by
  unfold rs_X4_goIfZero
  rw [p_take1 hD h]
  by_cases q : 1 ≤ D
  · rw [if_pos q, if_pos q]
    unfold rs_X4_goIfZero_5
    dsimp only
    rw [if_neg (by decide)]
    rw [hD, d_m1 q, cl_n (by omega)]
    unfold rs_X4_goIfZero_41
    split <;> rfl
  · rw [if_neg q, if_neg q]
    unfold rs_X4_goIfZero_5
    rw [if_pos rfl]
theorem o_ifz {C : St} {D : Nat} (v : Int32) (hD : C.1 1042 = nI D) (h : D ≤ 8) : ok_X4_goIfZero C v := by
  unfold ok_X4_goIfZero
  refine ⟨o_take, ?_⟩
  rw [p_take1 hD h]
  by_cases q : 1 ≤ D
  · rw [if_pos q]
    unfold ok_X4_goIfZero_5
    dsimp only
    rw [if_neg (by decide)]
    rw [hD, d_m1 q]
    refine ⟨vp_in_nI (by omega) (by omega), ?_⟩
    split <;> trivial
  · rw [if_neg q]
    unfold ok_X4_goIfZero_5
    rw [if_pos rfl]
    trivial
/-- what two numbers give -/
def gv (c a b : Int32) : Int32 := rs_X8_gives c a b
theorem p_put_2 {C : St} {D : Nat} (x : Int32) (h : D ≤ 8) (q : 2 ≤ D) : rs_X4_put (sI C 1042 (nI (D - 2))) x = sI (sI (sA (sI C 1042 (nI (D - 2))) 27 (D - 2) x) 1042 (nI (D - 1))) 1043 (C.1 1043 + 1) := by
  rw [p_put_lt (D := D - 2) x rfl (by omega), show D - 2 + 1 = D - 1 by omega]
  rfl
theorem o_put_2 {C : St} {D : Nat} (x : Int32) (h : D ≤ 8) : ok_X4_put (sI C 1042 (nI (D - 2))) x := o_put (D := D - 2) x rfl (by omega)
theorem p_join {C : St} {D : Nat} {c : Int32} (hc : c = 4 ∨ c = 5 ∨ c = 6 ∨ c = 9) (hD : C.1 1042 = nI D) (h : D ≤ 8) : rs_X4_join C c = if 2 ≤ D then sI (sI (sA (sI C 1042 (nI (D - 2))) 27 (D - 2) (gv c (C.2 27 (D - 2)) (C.2 27 (D - 1)))) 1042 (nI (D - 1))) 1043 (C.1 1043 + 1) else sI C 1045 3 := by
  unfold rs_X4_join
  rw [p_take2 hD h]
  by_cases q : 2 ≤ D
  · rw [if_pos q, if_pos q]
    unfold rs_X4_join_5
    dsimp only
    rw [if_neg (by decide)]
    rw [hD, d_m2 q, nI_1, cl_n (by omega), cl_n (by omega), show D - 2 + 1 = D - 1 by omega]
    unfold rs_X4_join_75 rs_X4_join_85 rs_X4_join_95 rs_X4_join_109
    simp only [p_put_2 _ h q]
    unfold gv rs_X8_gives
    rcases hc with rfl | rfl | rfl | rfl
    · rfl
    · rfl
    · rfl
    · simp only [show ((9 : Int32) = 4) = False from eq_false (by decide), show ((9 : Int32) = 5) = False from eq_false (by decide), show ((9 : Int32) = 6) = False from eq_false (by decide), show ((9 : Int32) = 7) = False from eq_false (by decide), show ((9 : Int32) = 8) = False from eq_false (by decide), if_false]
      split <;> rfl
  · rw [if_neg q, if_neg q]
    unfold rs_X4_join_5
    rw [if_pos rfl]
theorem o_join {C : St} {D : Nat} {c : Int32} (hD : C.1 1042 = nI D) (h : D ≤ 8) : ok_X4_join C c := by
  unfold ok_X4_join
  refine ⟨o_take, ?_⟩
  rw [p_take2 hD h]
  by_cases q : 2 ≤ D
  · rw [if_pos q]
    unfold ok_X4_join_5
    dsimp only
    rw [if_neg (by decide)]
    rw [hD, d_m2 q, nI_1]
    refine ⟨vp_in_nI (by omega) (by omega), vp_in_nI (by omega) (by omega), ?_⟩
    unfold ok_X4_join_75 ok_X4_join_85 ok_X4_join_95 ok_X4_join_109
    have o := fun x => o_put_2 (C := C) x h
    repeat' split
    all_goals exact ⟨o _, trivial⟩
  · rw [if_neg q]
    unfold ok_X4_join_5
    rw [if_pos rfl]
    trivial
theorem p_div {C : St} {D : Nat} {z c : Int32} (hz : (z = 0 ∧ c = 7) ∨ (z = 1 ∧ c = 8)) (hD : C.1 1042 = nI D) (h : D ≤ 8) : rs_X4_divide C z = if 2 ≤ D then (if C.2 27 (D - 1) = 0 then sI (sI C 1042 (nI (D - 2))) 1045 2 else sI (sI (sA (sI C 1042 (nI (D - 2))) 27 (D - 2) (gv c (C.2 27 (D - 2)) (C.2 27 (D - 1)))) 1042 (nI (D - 1))) 1043 (C.1 1043 + 1)) else sI C 1045 3 := by
  unfold rs_X4_divide
  rw [p_take2 hD h]
  by_cases q : 2 ≤ D
  · rw [if_pos q, if_pos q]
    unfold rs_X4_divide_5
    dsimp only
    rw [if_neg (by decide)]
    rw [hD, d_m2 q]
    unfold rs_X4_divide_19 rs_X4_divide_65
    simp only [sI_1, sI_2, if_true, p_put_2 _ h q]
    rw [nI_1, cl_n (by omega), cl_n (by omega), show D - 2 + 1 = D - 1 by omega]
    by_cases w : C.2 27 (D - 1) = 0
    · rw [if_pos w, if_pos w]
    · rw [if_neg w, if_neg w]
      unfold gv rs_X8_gives rs_X8_gives_58 rs_X8_gives_70
      rcases hz with ⟨rfl, rfl⟩ | ⟨rfl, rfl⟩
      · rw [if_pos rfl, if_neg (by decide), if_neg (by decide), if_neg (by decide), if_pos rfl, if_neg w]
      · rw [if_neg (by decide), if_neg (by decide), if_neg (by decide), if_neg (by decide), if_neg (by decide), if_pos rfl, if_neg w]
  · rw [if_neg q, if_neg q]
    unfold rs_X4_divide_5
    rw [if_pos rfl]
theorem o_div {C : St} {D : Nat} {z : Int32} (hD : C.1 1042 = nI D) (h : D ≤ 8) : ok_X4_divide C z := by
  unfold ok_X4_divide
  refine ⟨o_take, ?_⟩
  rw [p_take2 hD h]
  by_cases q : 2 ≤ D
  · rw [if_pos q]
    unfold ok_X4_divide_5
    dsimp only
    rw [if_neg (by decide)]
    rw [hD, d_m2 q]
    unfold ok_X4_divide_19 ok_X4_divide_65
    simp only [sI_1, sI_2, if_true]
    rw [nI_1]
    refine ⟨vp_in_nI (by omega) (by omega), vp_in_nI (by omega) (by omega), ?_⟩
    have o := fun x => o_put_2 (C := C) x h
    split
    · trivial
    · next w =>
      split
      · exact ⟨w, o _, trivial⟩
      · exact ⟨w, o _, trivial⟩
  · rw [if_neg q]
    unfold ok_X4_divide_5
    rw [if_pos rfl]
    trivial
/-- the reference's two operands -/
theorem m_both {M : St} {D : Nat} {c : Int32} (hD : M.1 1042 = nI D) (h : D ≤ 8) : rs_X8_both M c = if 2 ≤ D then (if (c = 7 ∨ c = 8) ∧ M.2 27 (D - 1) = 0 then sI M 1045 2 else sA (sI M 1042 (nI (D - 1))) 27 (D - 2) (gv c (M.2 27 (D - 2)) (M.2 27 (D - 1)))) else sI M 1045 3 := by
  unfold rs_X8_both
  rw [hD]
  by_cases q : 2 ≤ D
  · rw [if_pos ((d_le2 h).mpr q), if_pos q]
    unfold rs_X8_both_28 rs_X8_both_50 rs_X8_both_60
    simp only [sI_1, sI_2, if_true]
    rw [hD, d_m1 (by omega), cl_n (by omega), d_m1 (by omega), cl_n (by omega), show D - 1 - 1 = D - 2 by omega]
    unfold gv
    by_cases c7 : c = 7
    · subst c7
      rw [if_pos rfl]
      by_cases w : M.2 27 (D - 1) = 0
      · rw [if_pos w, if_pos ⟨Or.inl rfl, w⟩]
      · rw [if_neg w, if_neg (fun z => w z.2)]
    · rw [if_neg c7]
      by_cases c8 : c = 8
      · subst c8
        rw [if_pos rfl]
        by_cases w : M.2 27 (D - 1) = 0
        · rw [if_pos w, if_pos ⟨Or.inr rfl, w⟩]
        · rw [if_neg w, if_neg (fun z => w z.2)]
      · rw [if_neg c8, if_neg (fun z => z.1.elim c7 c8)]
  · rw [if_neg (fun z => q ((d_le2 h).mp z)), if_neg q]
