theorem ix16 {r t : Nat} (hr : r < 12) (ht : t ≤ 16) : (16 : Int32) * nI r + nI t = nI (16 * r + t) := by
  rw [show (16 : Int32) = nI 16 by decide, pk_mul, nI_add]
/-- what the reference reads ahead of a step -/
theorem m_goes {M : St} {r t : Nat} {c v ed : Int32} (hr : r < 12) (ht : t < 16) (ha : M.1 1043 = nI t) (hc : M.2 9 (16 * r + t) = c) (hv : M.2 10 (16 * r + t) = v) (he : M.2 4 r = ed) :
    rs_X8_goes M (nI r) = if 2 < c then (if c = 3 then rs_X8_goes_90 M c v ed else if c = 11 then rs_X8_goes_90 M c v ed else if 10 ≤ c then rs_X8_goes_188 M c v else rs_X8_goes_188 (rs_X8_both M c) c v) else (if c = 0 then rs_X8_goes_73 M c v v else if c = 1 then rs_X8_goes_73 M c v (M.2 1 v.toNatClampNeg) else rs_X8_goes_73 M c v (M.2 12 ed.toNatClampNeg)) := by
  unfold rs_X8_goes
  rw [ha, ix16 hr (by omega), cl_n (by omega), cl_n (by omega), hc, hv, he]
theorem mo_goes {M : St} {r t : Nat} {c v ed : Int32} (hr : r < 12) (ht : t < 16) (ha : M.1 1043 = nI t) (hc : M.2 9 (16 * r + t) = c) (hv : M.2 10 (16 * r + t) = v) (he : M.2 4 r = ed)
    (k : if 2 < c then (if c = 3 then ok_X8_goes_90 M c v ed else if c = 11 then ok_X8_goes_90 M c v ed else if 10 ≤ c then ok_X8_goes_188 M c v else (ok_X8_both M c ∧ ok_X8_goes_188 (rs_X8_both M c) c v)) else (if c = 0 then ok_X8_goes_73 M c v v else if c = 1 then (vp_in v 8 ∧ ok_X8_goes_73 M c v (M.2 1 v.toNatClampNeg)) else (vp_in ed 4 ∧ ok_X8_goes_73 M c v (M.2 12 ed.toNatClampNeg)))) : ok_X8_goes M (nI r) := by
  unfold ok_X8_goes
  rw [ha, ix16 hr (by omega), cl_n (by omega), cl_n (by omega), hc, hv, he]
  exact ⟨vp_in_nI (by omega) (by omega), vp_in_nI (by omega) (by omega), vp_in_nI (by omega) (by omega), k⟩
theorem mo_188 {S : St} {c v : Int32} : ok_X8_goes_188 S c v := by
  unfold ok_X8_goes_188
  repeat' split
  all_goals trivial
theorem mo_73 {M : St} {D : Nat} {c v x : Int32} (hD : M.1 1042 = nI D) (h : D ≤ 8) : ok_X8_goes_73 M c v x := ⟨o_push x hD h, mo_188⟩
theorem mo_90 {M : St} {D e : Nat} {c v : Int32} (hD : M.1 1042 = nI D) (h : D ≤ 8) (he : e < 4) : ok_X8_goes_90 M c v (nI e) := by
  unfold ok_X8_goes_90
  rw [hD]
  by_cases q : 1 ≤ D
  · rw [if_neg (fun z => absurd ((d_0 h).mp z) (by omega)), d_m1 q]
    have k : ∀ z : Int32, ok_X8_goes_147 (sI M 1042 (nI (D - 1))) c v (nI e) z := by
      intro z
      unfold ok_X8_goes_147 ok_X8_goes_170
      simp only [sI_1, sA_1, if_true]
      refine ⟨vp_in_nI he (by omega), ?_⟩
      split
      · refine ⟨vp_in_nI (by omega) (by omega), ?_⟩
        split <;> trivial
      · trivial
    split
    · exact ⟨vp_in_nI (by omega) (by omega), k _⟩
    · exact ⟨vp_in_nI he (by omega), k _⟩
  · rw [if_pos ((d_0 h).mpr (by omega))]
    trivial
theorem m_73 {M : St} {c v x : Int32} (h1 : ¬ c = 10) (h2 : ¬ c = 12) : rs_X8_goes_73 M c v x = ((rs_X8_push M x).1 1043 + 1, rs_X8_push M x) := by
  unfold rs_X8_goes_73 rs_X8_goes_76
  exact m_188 h1 h2
theorem m_90_3 {M : St} {D e : Nat} {v : Int32} (hD : M.1 1042 = nI D) (h : D ≤ 8) (he : e < 4) : rs_X8_goes_90 M 3 v (nI e) = if 1 ≤ D then (M.1 1043 + 1, sA (sI M 1042 (nI (D - 1))) 12 e (M.2 27 (D - 1))) else (M.1 1043, sI M 1045 3) := by
  unfold rs_X8_goes_90
  rw [hD]
  by_cases q : 1 ≤ D
  · rw [if_neg (fun z => absurd ((d_0 h).mp z) (by omega)), if_pos rfl, if_pos q, d_m1 q, cl_n (by omega)]
    unfold rs_X8_goes_147 rs_X8_goes_170
    rw [if_neg (by decide), cl_n (by omega)]
    rfl
  · rw [if_pos ((d_0 h).mpr (by omega)), if_neg q]
theorem m_90_11 {M : St} {D e : Nat} {v : Int32} (hD : M.1 1042 = nI D) (h : D ≤ 8) (he : e < 4) : rs_X8_goes_90 M 11 v (nI e) = if 1 ≤ D then ((if M.2 27 (D - 1) = 0 then v else M.1 1043 + 1), sI M 1042 (nI (D - 1))) else (M.1 1043, sI M 1045 3) := by
  unfold rs_X8_goes_90
  rw [hD]
  by_cases q : 1 ≤ D
  · rw [if_neg (fun z => absurd ((d_0 h).mp z) (by omega)), if_neg (by decide), if_pos q, d_m1 q, cl_n (by omega)]
    unfold rs_X8_goes_147 rs_X8_goes_170
    rw [if_pos rfl, cl_n (by omega)]
    rw [show sA (sI M 1042 (nI (D - 1))) 12 e (M.2 12 e) = sI M 1042 (nI (D - 1)) from sA_id (sI M 1042 (nI (D - 1))) 12 e]
    rw [show (sI M 1042 (nI (D - 1))).1 1042 = nI (D - 1) from rfl, cl_n (by omega)]
    rw [show (sI M 1042 (nI (D - 1))).2 27 (D - 1) = M.2 27 (D - 1) from rfl]
    split <;> rfl
  · rw [if_pos ((d_0 h).mpr (by omega)), if_neg q]
theorem mNext_ok {S : St} {a : Int32} (h : S.1 1045 = 0) : mNext (a, S) = sI S 1043 a := by
  unfold mNext
  rw [if_pos h]
/-- ONE STEP OF BOTH -/
theorem step_sim {C M : St} {D t e r : Nat} {c v : Int32} (h : Sh C M) (hD : C.1 1042 = nI D) (hM : M.1 1042 = nI D) (h8 : D ≤ 8) (ht : t < 16) (ha : C.1 1043 = nI t) (hf : C.1 1045 = 0) (hop : opOK c v) (he : e < 4) (hr : r < 12)
    (hc : C.2 9 (16 * r + t) = c) (hv : C.2 10 (16 * r + t) = v) (hed : C.2 4 r = nI e) :
    StEnd C M (rs_X4_step C c v (nI e)) (mNext (rs_X8_goes M (nI r))) ∧ ok_X4_step C c v (nI e) ∧ ok_X8_goes M (nI r) := by
  have hfm : M.1 1045 = 0 := (h.i 1045).trans hf
  have ham : M.1 1043 = nI t := (h.i 1043).trans ha
  have hg := m_goes (M := M) (c := c) (v := v) (ed := nI e) hr ht ham (by rw [h.a 9]; exact hc) (by rw [h.a 10]; exact hv) (by rw [h.a 4]; exact hed)
  have ho := mo_goes (M := M) (c := c) (v := v) (ed := nI e) hr ht ham (by rw [h.a 9]; exact hc) (by rw [h.a 10]; exact hv) (by rw [h.a 4]; exact hed)
  rw [hg]
  unfold rs_X4_step ok_X4_step
  unfold rs_X4_step_73 rs_X4_step_84 rs_X4_step_95 rs_X4_step_105 rs_X4_step_121 rs_X4_step_138 rs_X4_step_146 rs_X4_step_149
  rcases hop with rfl | ⟨rfl, j, hj, rfl⟩ | rfl | rfl | hj4 | rfl | rfl | ⟨rfl, j, hj, rfl⟩ | ⟨rfl, j, hj, rfl⟩ | rfl
  · rw [if_pos rfl, if_pos rfl, if_neg (by decide), if_pos rfl, m_73 (by decide) (by decide)]
    refine ⟨st_put h hD hM h8 ht ha hf, ⟨o_put _ hD h8, trivial⟩, ho ?_⟩
    rw [if_neg (by decide), if_pos rfl]
    exact mo_73 hM h8
  · rw [if_neg (by decide), if_pos rfl, if_neg (by decide), if_pos rfl, if_neg (by decide), if_neg (by decide), if_pos rfl, m_73 (by decide) (by decide), h.a 1]
    refine ⟨st_put h hD hM h8 ht ha hf, ⟨vp_in_nI hj (by omega), o_put _ hD h8, trivial⟩, ho ?_⟩
    rw [if_neg (by decide), if_neg (by decide), if_pos rfl]
    exact ⟨vp_in_nI hj (by omega), mo_73 hM h8⟩
  · rw [if_neg (by decide), if_neg (by decide), if_pos rfl, if_neg (by decide), if_neg (by decide), if_pos rfl, if_neg (by decide), if_neg (by decide), if_neg (by decide), m_73 (by decide) (by decide), h.a 12]
    refine ⟨st_put h hD hM h8 ht ha hf, ⟨vp_in_nI he (by omega), o_put _ hD h8, trivial⟩, ho ?_⟩
    rw [if_neg (by decide), if_neg (by decide), if_neg (by decide)]
    exact ⟨vp_in_nI he (by omega), mo_73 hM h8⟩
  · have n (k : Int32) (hk : ¬ (3 : Int32) = k) : ((3 : Int32) = k) = False := eq_false hk
    simp only [n 0 (by decide), n 1 (by decide), n 2 (by decide), if_false, if_true, if_pos (show (2 : Int32) < 3 by decide)] at ho ⊢
    rw [m_90_3 hM h8 he, p_keep hD h8 he]
    refine ⟨?_, ⟨o_keep hD h8 he, trivial⟩, ho ?_⟩
    · by_cases q : 1 ≤ D
      · rw [if_pos q, if_pos q, mNext_ok (show (sA (sI M 1042 (nI (D - 1))) 12 e (M.2 27 (D - 1))).1 1045 = 0 from hfm), ham, ha, nI_1, h.a 27]
        exact ⟨(((h.cI 1042 _ (by decide)).mI 1042 _ (by decide)).wA _ _ _).wI _ _, fun _ => ⟨D - 1, by omega, rfl, rfl⟩, ⟨t + 1, by omega, rfl⟩, Or.inl hf, rfl, ((Fr.rf.wI _ _ (by decide)).wA _ _ _ (by decide)).wI _ _ (by decide), ((Fr.rf.wI _ _ (by decide)).wA _ _ _ (by decide)).wI _ _ (by decide)⟩
      · rw [if_neg q, if_neg q, mNext_fail (by decide)]
        exact st_fail h (Or.inr rfl) (by omega) ha (Or.inl rfl) rfl
    · exact mo_90 hM h8 he
  · have hh : c = 4 ∨ c = 5 ∨ c = 6 ∨ c = 9 := hj4
    have n0 : ¬ c = 0 := by rcases hh with rfl | rfl | rfl | rfl <;> decide
    have n1 : ¬ c = 1 := by rcases hh with rfl | rfl | rfl | rfl <;> decide
    have n2 : ¬ c = 2 := by rcases hh with rfl | rfl | rfl | rfl <;> decide
    have n3 : ¬ c = 3 := by rcases hh with rfl | rfl | rfl | rfl <;> decide
    have n7 : ¬ c = 7 := by rcases hh with rfl | rfl | rfl | rfl <;> decide
    have n8 : ¬ c = 8 := by rcases hh with rfl | rfl | rfl | rfl <;> decide
    have n10 : ¬ c = 10 := by rcases hh with rfl | rfl | rfl | rfl <;> decide
    have n11 : ¬ c = 11 := by rcases hh with rfl | rfl | rfl | rfl <;> decide
    have n12 : ¬ c = 12 := by rcases hh with rfl | rfl | rfl | rfl <;> decide
    have g2 : 2 < c := by rcases hh with rfl | rfl | rfl | rfl <;> decide
    have l10 : ¬ 10 ≤ c := by rcases hh with rfl | rfl | rfl | rfl <;> decide
    simp only [if_neg n0, if_neg n1, if_neg n2, if_neg n3, if_neg n7, if_neg n8, if_neg n10, if_neg n11, if_neg n12, if_pos g2, if_neg l10, m_188 n10 n12] at ho ⊢
    refine ⟨st_two h hD hM h8 ht ha hf ?_, ⟨o_join hD h8, trivial⟩, ho ⟨o_both hM h8, mo_188⟩⟩
    rw [p_join hh hD h8]
    split
    · rw [if_neg (fun z => z.1.elim n7 n8)]
    · rfl
  · rw [p_div (c := 7) (Or.inl ⟨rfl, rfl⟩) hD h8, p_div (c := 8) (Or.inr ⟨rfl, rfl⟩) hD h8]
    have n (k : Int32) (hk : ¬ (7 : Int32) = k) : ((7 : Int32) = k) = False := eq_false hk
    simp only [n 0 (by decide), n 1 (by decide), n 2 (by decide), n 3 (by decide), n 11 (by decide), if_false, if_true, if_pos (show (2 : Int32) < 7 by decide), if_neg (show ¬ (10 : Int32) ≤ 7 by decide), m_188 (show ¬ (7 : Int32) = 10 by decide) (show ¬ (7 : Int32) = 12 by decide)] at ho ⊢
    refine ⟨st_two h hD hM h8 ht ha hf ?_, ⟨o_div hD h8, trivial⟩, ho ⟨o_both hM h8, mo_188⟩⟩
    split
    · by_cases w : C.2 27 (D - 1) = 0
      · rw [if_pos w, if_pos ⟨Or.inl rfl, w⟩]
      · rw [if_neg w, if_neg (fun z => w z.2)]
    · rfl
  · rw [p_div (c := 7) (Or.inl ⟨rfl, rfl⟩) hD h8, p_div (c := 8) (Or.inr ⟨rfl, rfl⟩) hD h8]
    have n (k : Int32) (hk : ¬ (8 : Int32) = k) : ((8 : Int32) = k) = False := eq_false hk
    simp only [n 0 (by decide), n 1 (by decide), n 2 (by decide), n 3 (by decide), n 7 (by decide), n 11 (by decide), if_false, if_true, if_pos (show (2 : Int32) < 8 by decide), if_neg (show ¬ (10 : Int32) ≤ 8 by decide), m_188 (show ¬ (8 : Int32) = 10 by decide) (show ¬ (8 : Int32) = 12 by decide)] at ho ⊢
    refine ⟨st_two h hD hM h8 ht ha hf ?_, ⟨o_div hD h8, trivial⟩, ho ⟨o_both hM h8, mo_188⟩⟩
    split
    · by_cases w : C.2 27 (D - 1) = 0
      · rw [if_pos w, if_pos ⟨Or.inr rfl, w⟩]
      · rw [if_neg w, if_neg (fun z => w z.2)]
    · rfl
  · have n (k : Int32) (hk : ¬ (10 : Int32) = k) : ((10 : Int32) = k) = False := eq_false hk
    simp only [n 0 (by decide), n 1 (by decide), n 2 (by decide), n 3 (by decide), n 7 (by decide), n 8 (by decide), n 11 (by decide), if_false, if_true, if_pos (show (2 : Int32) < 10 by decide), if_pos (show (10 : Int32) ≤ 10 by decide)] at ho ⊢
    rw [show rs_X8_goes_188 M 10 (nI j) = (nI j, M) from rfl, mNext_ok hfm]
    exact ⟨⟨h.wI _ _, fun _ => ⟨D, h8, hD, hM⟩, ⟨j, hj, rfl⟩, Or.inl hf, rfl, Fr.rf.wI _ _ (by decide), Fr.rf.wI _ _ (by decide)⟩, trivial, ho mo_188⟩
  · have n (k : Int32) (hk : ¬ (11 : Int32) = k) : ((11 : Int32) = k) = False := eq_false hk
    simp only [n 0 (by decide), n 1 (by decide), n 2 (by decide), n 3 (by decide), n 7 (by decide), n 8 (by decide), n 10 (by decide), if_false, if_true, if_pos (show (2 : Int32) < 11 by decide)] at ho ⊢
    rw [m_90_11 hM h8 he, p_ifz _ hD h8]
    refine ⟨?_, ⟨o_ifz _ hD h8, trivial⟩, ho (mo_90 hM h8 he)⟩
    by_cases q : 1 ≤ D
    · rw [if_pos q, if_pos q, mNext_ok (show (sI M 1042 (nI (D - 1))).1 1045 = 0 from hfm), ham, ha, nI_1, h.a 27]
      refine ⟨((h.cI 1042 _ (by decide)).mI 1042 _ (by decide)).wI _ _, fun _ => ⟨D - 1, by omega, rfl, rfl⟩, ?_, Or.inl hf, rfl, (Fr.rf.wI _ _ (by decide)).wI _ _ (by decide), (Fr.rf.wI _ _ (by decide)).wI _ _ (by decide)⟩
      rw [sI_1, if_pos rfl]
      split
      · exact ⟨j, hj, rfl⟩
      · exact ⟨t + 1, by omega, rfl⟩
    · rw [if_neg q, if_neg q, mNext_fail (by decide)]
      exact st_fail h (Or.inr rfl) (by omega) ha (Or.inl rfl) rfl
  · have n (k : Int32) (hk : ¬ (12 : Int32) = k) : ((12 : Int32) = k) = False := eq_false hk
    simp only [n 0 (by decide), n 1 (by decide), n 2 (by decide), n 3 (by decide), n 7 (by decide), n 8 (by decide), n 10 (by decide), n 11 (by decide), if_false, if_true, if_pos (show (2 : Int32) < 12 by decide), if_pos (show (10 : Int32) ≤ 12 by decide)] at ho ⊢
    rw [show rs_X8_goes_188 M 12 v = (16, M) from rfl, mNext_ok hfm]
    exact ⟨⟨h.wI _ _, fun _ => ⟨D, h8, hD, hM⟩, ⟨16, by omega, rfl⟩, Or.inl hf, rfl, Fr.rf.wI _ _ (by decide), Fr.rf.wI _ _ (by decide)⟩, trivial, ho mo_188⟩
