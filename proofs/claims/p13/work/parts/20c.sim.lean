/-! the reference's step, and one step of both -/
def mNext (g : Int32 × St) : St := if g.2.1 1045 = 0 then sI g.2 1043 g.1 else sI g.2 1043 (g.2.1 1043)
/-- an operation that may stand in a rule -/
def opOK (c v : Int32) : Prop := c = 0 ∨ (c = 1 ∧ ∃ j, j < 8 ∧ v = nI j) ∨ c = 2 ∨ c = 3 ∨ (c = 4 ∨ c = 5 ∨ c = 6 ∨ c = 9) ∨ c = 7 ∨ c = 8 ∨ (c = 10 ∧ ∃ j, j ≤ 16 ∧ v = nI j) ∨ (c = 11 ∧ ∃ j, j ≤ 16 ∧ v = nI j) ∨ c = 12
/-- what a run may write -/
def Fr (C C1 : St) : Prop := (∀ k, k ≠ 1042 → k ≠ 1043 → k ≠ 1044 → k ≠ 1045 → C1.1 k = C.1 k) ∧ ∀ p, p ≠ 12 → p ≠ 27 → C1.2 p = C.2 p
theorem Fr.rf {C : St} : Fr C C := ⟨fun _ _ _ _ _ => rfl, fun _ _ _ => rfl⟩
theorem Fr.tr {C C1 C2 : St} (h : Fr C C1) (h2 : Fr C1 C2) : Fr C C2 := ⟨fun k a b c d => (h2.1 k a b c d).trans (h.1 k a b c d), fun p a b => (h2.2 p a b).trans (h.2 p a b)⟩
theorem Fr.wI {C C1 : St} (h : Fr C C1) (k : Nat) (v : Int32) (hk : k = 1042 ∨ k = 1043 ∨ k = 1044 ∨ k = 1045) : Fr C (sI C1 k v) := ⟨fun j a b c d => by rw [sI_1, if_neg (by omega)]; exact h.1 j a b c d, h.2⟩
theorem Fr.wA {C C1 : St} (h : Fr C C1) (p j : Nat) (v : Int32) (hp : p = 12 ∨ p = 27) : Fr C (sA C1 p j v) := ⟨h.1, fun q a b => by rw [sA_2, if_neg (by omega)]; exact h.2 q a b⟩
/-- behind one step -/
def StEnd (C M C1 M1 : St) : Prop := Sh C1 M1 ∧ (C1.1 1045 = 0 → ∃ D, D ≤ 8 ∧ C1.1 1042 = nI D ∧ M1.1 1042 = nI D) ∧ (∃ t, t ≤ 16 ∧ C1.1 1043 = nI t) ∧ (C1.1 1045 = 0 ∨ C1.1 1045 = 2 ∨ C1.1 1045 = 3) ∧ C1.1 1044 = C.1 1044 ∧ Fr C C1 ∧ Fr M M1
theorem mNext_fail {M : St} {a w : Int32} (hw : ¬ w = 0) : mNext (a, sI M 1045 w) = sI M 1045 w := by
  unfold mNext
  dsimp only
  rw [sI_1, if_pos rfl, if_neg hw, sI_id]
theorem st_fail {C M C1 M1 : St} {w : Int32} {t : Nat} (h : Sh C M) (hw : w = 2 ∨ w = 3) (ht : t ≤ 16) (ha : C.1 1043 = nI t) (hC : C1 = sI C 1045 w ∨ ∃ x, C1 = sI (sI C 1042 x) 1045 w) (hM : M1 = sI M 1045 w) : StEnd C M C1 M1 := by
  have w0 : ¬ w = 0 := by rcases hw with rfl | rfl <;> decide
  subst hM
  rcases hC with rfl | ⟨x, rfl⟩
  · exact ⟨h.wI _ _, fun z => absurd z w0, ⟨t, ht, ha⟩, Or.inr hw, rfl, Fr.rf.wI _ _ (by decide), Fr.rf.wI _ _ (by decide)⟩
  · exact ⟨(h.cI 1042 x (by decide)).wI _ _, fun z => absurd z w0, ⟨t, ht, ha⟩, Or.inr hw, rfl, (Fr.rf.wI _ _ (by decide)).wI _ _ (by decide), Fr.rf.wI _ _ (by decide)⟩
theorem st_put {C M : St} {D t : Nat} {x : Int32} (h : Sh C M) (hD : C.1 1042 = nI D) (hM : M.1 1042 = nI D) (h8 : D ≤ 8) (ht : t < 16) (ha : C.1 1043 = nI t) (hf : C.1 1045 = 0) : StEnd C M (rs_X4_put C x) (mNext ((rs_X8_push M x).1 1043 + 1, rs_X8_push M x)) := by
  have hfm : M.1 1045 = 0 := (h.i 1045).trans hf
  have ham : M.1 1043 = nI t := (h.i 1043).trans ha
  rcases Nat.lt_or_ge D 8 with q | q
  · rw [p_put_lt x hD q, p_push_lt x hM q]
    unfold mNext
    dsimp only
    rw [if_pos (show (sI (sA M 27 D x) 1042 (nI (D + 1))).1 1045 = 0 from hfm)]
    rw [show (sI (sA M 27 D x) 1042 (nI (D + 1))).1 1043 = nI t from ham, ha, nI_1]
    exact ⟨((h.wA _ _ _).wI _ _).wI _ _, fun _ => ⟨D + 1, by omega, rfl, rfl⟩, ⟨t + 1, by omega, rfl⟩, Or.inl hf, rfl, ((Fr.rf.wA _ _ _ (by decide)).wI _ _ (by decide)).wI _ _ (by decide), ((Fr.rf.wA _ _ _ (by decide)).wI _ _ (by decide)).wI _ _ (by decide)⟩
  · have e : D = 8 := by omega
    subst e
    rw [p_put_8 x hD, p_push_8 x hM, mNext_fail (by decide)]
    exact st_fail h (Or.inr rfl) (by omega) ha (Or.inl rfl) rfl
/-- the reference's operands, with the class's -/
theorem st_two {C M C1 : St} {D t : Nat} {c : Int32} (h : Sh C M) (hD : C.1 1042 = nI D) (hM : M.1 1042 = nI D) (h8 : D ≤ 8) (ht : t < 16) (ha : C.1 1043 = nI t) (hf : C.1 1045 = 0)
    (hC : C1 = if 2 ≤ D then (if (c = 7 ∨ c = 8) ∧ C.2 27 (D - 1) = 0 then sI (sI C 1042 (nI (D - 2))) 1045 2 else sI (sI (sA (sI C 1042 (nI (D - 2))) 27 (D - 2) (gv c (C.2 27 (D - 2)) (C.2 27 (D - 1)))) 1042 (nI (D - 1))) 1043 (C.1 1043 + 1)) else sI C 1045 3) :
    StEnd C M C1 (mNext ((rs_X8_both M c).1 1043 + 1, rs_X8_both M c)) := by
  have hfm : M.1 1045 = 0 := (h.i 1045).trans hf
  have ham : M.1 1043 = nI t := (h.i 1043).trans ha
  rw [m_both hM h8, h.a 27]
  by_cases q : 2 ≤ D
  · rw [if_pos q] at hC
    rw [if_pos q]
    by_cases w : (c = 7 ∨ c = 8) ∧ C.2 27 (D - 1) = 0
    · rw [if_pos w] at hC
      rw [if_pos w, mNext_fail (by decide)]
      exact st_fail h (Or.inl rfl) (by omega) ha (Or.inr ⟨_, hC⟩) rfl
    · rw [if_neg w] at hC
      rw [if_neg w]
      subst hC
      unfold mNext
      dsimp only
      generalize hg : gv c (C.2 27 (D - 2)) (C.2 27 (D - 1)) = g
      rw [if_pos (show (sA (sI M 1042 (nI (D - 1))) 27 (D - 2) g).1 1045 = 0 from hfm)]
      rw [show (sA (sI M 1042 (nI (D - 1))) 27 (D - 2) g).1 1043 = nI t from ham, ha, nI_1]
      exact ⟨((((h.cI 1042 _ (by decide)).mI 1042 _ (by decide)).wA _ _ _).cI 1042 _ (by decide)).wI _ _, fun _ => ⟨D - 1, by omega, rfl, rfl⟩, ⟨t + 1, by omega, rfl⟩, Or.inl hf, rfl, (((Fr.rf.wI _ _ (by decide)).wA _ _ _ (by decide)).wI _ _ (by decide)).wI _ _ (by decide), ((Fr.rf.wI _ _ (by decide)).wA _ _ _ (by decide)).wI _ _ (by decide)⟩
  · rw [if_neg q] at hC
    rw [if_neg q, mNext_fail (by decide)]
    exact st_fail h (Or.inr rfl) (by omega) ha (Or.inl hC) rfl
theorem m_188 {S : St} {c v : Int32} (h1 : ¬ c = 10) (h2 : ¬ c = 12) : rs_X8_goes_188 S c v = (S.1 1043 + 1, S) := by
  unfold rs_X8_goes_188
  rw [if_neg h1, if_neg h2]
theorem o_both {M : St} {D : Nat} {c : Int32} (hD : M.1 1042 = nI D) (h : D ≤ 8) : ok_X8_both M c := by
  have og : ∀ x y z : Int32, ok_X8_gives x y z := by
    intro x y z
    unfold ok_X8_gives ok_X8_gives_58 ok_X8_gives_70
    repeat' split
    all_goals first | trivial | exact ⟨by decide, trivial⟩ | exact ⟨by assumption, trivial⟩
  unfold ok_X8_both
  rw [hD]
  by_cases q : 2 ≤ D
  · rw [if_pos ((d_le2 h).mpr q)]
    have k50 : ok_X8_both_50 M c := by
      unfold ok_X8_both_50 ok_X8_both_60
      simp only [sI_1, sI_2, if_true]
      rw [hD, d_m1 (by omega), d_m1 (by omega)]
      exact ⟨vp_in_nI (by omega) (by omega), vp_in_nI (by omega) (by omega), og _ _ _, vp_in_nI (by omega) (by omega), trivial⟩
    have k28 : ok_X8_both_28 M c := by
      unfold ok_X8_both_28
      rw [hD, d_m1 (by omega)]
      refine ⟨vp_in_nI (by omega) (by omega), ?_⟩
      split
      · trivial
      · exact k50
    split
    · exact k28
    · split
      · exact k28
      · exact k50
  · rw [if_neg (fun z => q ((d_le2 h).mp z))]
    trivial
