/-! WHAT HOLDS BETWEEN TWO CALLS, and an ask -/
def dcn (f : Nat → Int32) : Nat → Nat
  | 0 => 0
  | n + 1 => dcn f n + (if f n = 0 then 0 else 1)
theorem dcn_le (f : Nat → Int32) : ∀ n, dcn f n ≤ n := by
  intro n
  induction n with
  | zero => exact Nat.le_refl _
  | succ n ih =>
    rw [dcn]
    split <;> omega
def Rest (C : St) (R K : Nat) : Prop := (∀ j, K ≤ j → C.2 23 j = 0) ∧ (∀ j, K ≤ j → C.2 22 j = 0) ∧ (∀ r, R ≤ r → C.2 6 r = 0) ∧ C.1 687 = nI (dcn (C.2 22) K) ∧ (∀ j, j < K → C.2 22 j = 0 ∨ C.2 22 j = 1) ∧ (∀ j, j < K → C.2 22 j = 0 → (2 ≤ C.2 20 j ↔ 50 ≤ C.2 19 j))
def Rel (C M : St) (R K T N t : Nat) : Prop := Sh C M ∧ C.2 18 = M.2 18 ∧ C.1 686 = nI K ∧ M.1 686 = nI K ∧ K ≤ 40 ∧ Inv C R ∧ FRel C M T ∧ T ≤ 60 * K ∧ StOK C ∧ CntOK C R ∧ (C.1 601 = nI N ∧ N ≤ 60 ∧ C.1 602 = nI t ∧ t ≤ N) ∧ Rest C R K
theorem Rel.m2000 {C M : St} {R K T N t : Nat} (h : Rel C M R K T N t) (v : Int32) : Rel C (sI M 2000 v) R K T N t := by
  obtain ⟨a, b, c, d, e, f, g, i⟩ := h
  exact ⟨a.mI _ _ (by decide), b, c, d, e, f, ⟨g.1, g.2.1, g.2.2⟩, i⟩
theorem Inv.eq {C C1 : St} {R : Nat} (h : Inv C R) (i1 : C1.1 127 = C.1 127) (i2 : C1.1 1040 = C.1 1040) (p4 : C1.2 4 = C.2 4) (p6 : C1.2 6 = C.2 6) (p9 : C1.2 9 = C.2 9) (p10 : C1.2 10 = C.2 10) : Inv C1 R := by
  obtain ⟨a, b, d, lim, e, g⟩ := h
  refine ⟨i1.trans a, b, fun r hr => ?_, lim, e, i2.trans g⟩
  obtain ⟨L, e, hL, he, h1, h2, h3⟩ := d r hr
  exact ⟨L, e, hL, he, by rw [p6]; exact h1, by rw [p4]; exact h2, fun t ht => by rw [p9, p10]; exact h3 t ht⟩
theorem mTail_eq (M : St) (o p : Int32) : mTail M o p = rs_X8_ask_197 M o p (rs_X7_pathByPoints p) := by
  unfold mTail rs_X7_pathByPoints
  split
  · split
    · split <;> rfl
    · rfl
  · rfl
theorem mTailO_eq (M : St) (o p : Int32) : mTailO M o p = ok_X8_ask_197 M o p (rs_X7_pathByPoints p) := by
  unfold mTailO rs_X7_pathByPoints
  split
  · split
    · split <;> rfl
    · rfl
  · rfl
/-- a case is judged -/
def cFin (S : St) (K : Nat) (pts way x : Int32) : St := sA (sA (sA S 19 K pts) 20 K way) 21 K (vp_nar .boolean x)
def mFin (S : St) (K : Nat) (o pts way x : Int32) : St := sI (sA (sA (sA (sA S 18 K o) 19 K pts) 20 K way) 21 K (vp_nar .boolean x)) 686 (nI (K + 1))
theorem p_judge {S : St} {K : Nat} (hK : K < 40) (pts way x : Int32) : rs_X0_judge S (nI K) pts way x = cFin S K pts way x ∧ ok_X0_judge S (nI K) pts way x := by
  unfold rs_X0_judge rs_X0_judge_7 rs_X0_judge_14 ok_X0_judge ok_X0_judge_7 ok_X0_judge_14 cFin
  rw [cl_n (by omega)]
  exact ⟨rfl, vp_in_nI hK (by omega), vp_in_nI hK (by omega), vp_in_nI hK (by omega), trivial⟩
theorem m_258 {S : St} {K : Nat} (hK : K < 40) (h : S.1 686 = nI K) (o pts way x : Int32) : rs_X8_ask_258 S o pts way x = (pts, mFin S K o pts (if x = 0 then way else 1) x) ∧ ok_X8_ask_258 S o pts way x := by
  unfold rs_X8_ask_258 rs_X8_ask_268 rs_X8_ask_296 rs_X8_ask_297 rs_X8_ask_308 ok_X8_ask_258 ok_X8_ask_268 ok_X8_ask_296 ok_X8_ask_297 ok_X8_ask_308 mFin
  simp only [sA_1]
  rw [h, a1, cl_n (by omega)]
  refine ⟨?_, vp_in_nI hK (by omega), vp_in_nI hK (by omega), ?_⟩
  · split <;> rfl
  · split <;> exact ⟨vp_in_nI hK (by omega), vp_in_nI hK (by omega), trivial⟩
theorem p_100 {S : St} {K : Nat} (hK : K < 40) (pts way x : Int32) : rs_X7_ask_100 S (nI K) pts way x = (0, pts, cFin S K pts (if x = 0 then way else 1) x) ∧ ok_X7_ask_100 S (nI K) pts way x := by
  unfold rs_X7_ask_100 rs_X7_ask_119 rs_X7_ask_124 ok_X7_ask_100 ok_X7_ask_119 ok_X7_ask_124
  split
  · next q => rw [(p_judge hK pts way x).1]; exact ⟨rfl, (p_judge hK pts way x).2, trivial⟩
  · next q => rw [(p_judge hK pts 1 x).1]; exact ⟨rfl, (p_judge hK pts 1 x).2, trivial⟩
theorem pbp_ok {x : Int32} : ok_X7_pathByPoints x := by
  unfold ok_X7_pathByPoints
  repeat' split
  all_goals trivial
/-- the end of an ask: the same number of points, the same path, the same chance; the tape goes on alike -/
theorem tail_sim {C M : St} {K N t q : Nat} {o : Int32} (sh : Sh C M) (hK : K < 40) (mc : M.1 686 = nI K) (h1 : C.1 601 = nI N) (hN : N ≤ 60) (h2 : C.1 602 = nI t) (ht : t ≤ N) (hq : q ≤ 1000) :
    ∃ (w x : Int32) (t1 : Nat) (C1 M1 : St), rs_X7_ask_73 C (nI K) (nI q) = (0, nI q, cFin C1 K (nI q) w x) ∧ mTail M o (nI q) = (nI q, mFin M1 K o (nI q) w x) ∧ ok_X7_ask_73 C (nI K) (nI q) ∧ mTailO M o (nI q) ∧ (2 ≤ w ↔ 50 ≤ nI q) ∧ t1 ≤ N ∧ ((C1 = C ∧ M1 = M ∧ t1 = t) ∨ (C1 = sI C 602 (nI t1) ∧ M1 = sI M 602 (nI t1))) ∧ C1.1 602 = nI t1 := by
  have m1 : M.1 601 = nI N := (sh.i 601).trans h1
  have m2 : M.1 602 = nI t := (sh.i 602).trans h2
  have hw : 2 ≤ rs_X7_pathByPoints (nI q) ↔ 50 ≤ nI q := by
    unfold rs_X7_pathByPoints
    by_cases a : (20 : Int32) ≤ nI q
    · rw [if_pos a]
      by_cases b : (50 : Int32) ≤ nI q
      · rw [if_pos b]
        refine ⟨fun _ => b, fun _ => ?_⟩
        split <;> decide
      · rw [if_neg b]
        exact ⟨fun z => absurd z (by decide), fun z => absurd z b⟩
    · rw [if_neg a]
      refine ⟨fun z => absurd z (by decide), fun z => absurd ?_ a⟩
      rw [lei] at z ⊢
      have e1 : (50 : Int32).toInt = 50 := by decide
      have e2 : (20 : Int32).toInt = 20 := by decide
      omega
  have w0 : rs_X7_pathByPoints (nI q) = 0 → ¬ (50 : Int32) ≤ nI q := fun z y => absurd (hw.mpr y) (by rw [z]; decide)
  rw [mTail_eq, mTailO_eq]
  unfold rs_X7_ask_73 ok_X7_ask_73 rs_X8_ask_197 ok_X8_ask_197
  by_cases a : rs_X7_pathByPoints (nI q) = 0
  · rw [if_pos a, if_pos a, if_pos a, if_pos a, m1, m2]
    unfold rs_X6_grantsNext ok_X6_grantsNext
    rw [h1, h2, sh.i 603, sh.i 604, sh.a 16]
    by_cases b : t < N
    · have b1 : nI t < nI N := (n_lt (by omega) (by omega)).mpr b
      have b2 : ¬ nI N ≤ nI t := fun z => absurd ((n_le (by omega) (by omega)).mp z) (by omega)
      rw [if_pos b1, if_pos b1, if_neg b2, if_neg b2, a1, cl_n (by omega)]
      have mc' : (sI M 602 (nI (t + 1))).1 686 = nI K := mc
      unfold rs_X8_ask_246 ok_X8_ask_246 rs_X7_ask_92 ok_X7_ask_92 rs_X7_ask_99 ok_X7_ask_99
      rw [m2, a1]
      by_cases d : C.1 603 * 1000 ≤ C.2 16 t * C.1 604
      · rw [if_pos d, if_pos d, if_pos d, if_pos d]
        dsimp only
        rw [if_pos rfl, if_pos rfl, (p_100 hK _ _ _).1, (m_258 hK mc' _ _ _ _).1, if_pos rfl]
        exact ⟨rs_X7_pathByPoints (nI q), 0, t + 1, sI C 602 (nI (t + 1)), sI M 602 (nI (t + 1)), rfl, rfl, ⟨pbp_ok, ⟨vp_in_nI (by omega) (by omega), trivial⟩, (p_100 hK _ _ _).2⟩, ⟨vp_in_nI (by omega) (by omega), (m_258 hK mc' _ _ _ _).2⟩, hw, by omega, Or.inr ⟨rfl, rfl⟩, rfl⟩
      · rw [if_neg d, if_neg d, if_neg d, if_neg d]
        dsimp only
        rw [if_neg (by decide), if_neg (by decide), (p_100 hK _ _ _).1, (m_258 hK mc' _ _ _ _).1, if_neg (by decide)]
        exact ⟨1, 1, t + 1, sI C 602 (nI (t + 1)), sI M 602 (nI (t + 1)), rfl, rfl, ⟨pbp_ok, ⟨vp_in_nI (by omega) (by omega), trivial⟩, (p_100 hK _ _ _).2⟩, ⟨vp_in_nI (by omega) (by omega), (m_258 hK mc' _ _ _ _).2⟩, ⟨fun z => absurd z (by decide), fun z => absurd z (w0 a)⟩, by omega, Or.inr ⟨rfl, rfl⟩, rfl⟩
    · have b1 : ¬ nI t < nI N := fun z => b ((n_lt (by omega) (by omega)).mp z)
      have b2 : nI N ≤ nI t := (n_le (by omega) (by omega)).mpr (by omega)
      rw [if_neg b1, if_neg b1, if_pos b2, if_pos b2]
      unfold rs_X7_ask_92 ok_X7_ask_92 rs_X7_ask_99 ok_X7_ask_99
      dsimp only
      rw [if_pos rfl, if_pos rfl, (p_100 hK _ _ _).1, (m_258 hK mc _ _ _ _).1, if_pos rfl]
      exact ⟨rs_X7_pathByPoints (nI q), 0, t, C, M, rfl, rfl, ⟨pbp_ok, trivial, (p_100 hK _ _ _).2⟩, (m_258 hK mc _ _ _ _).2, hw, ht, Or.inl ⟨rfl, rfl, rfl⟩, h2⟩
  · rw [if_neg a, if_neg a, if_neg a, if_neg a]
    unfold rs_X7_ask_99 ok_X7_ask_99
    rw [(p_100 hK _ _ _).1, (m_258 hK mc _ _ _ _).1, if_pos rfl]
    exact ⟨rs_X7_pathByPoints (nI q), 0, t, C, M, rfl, rfl, ⟨pbp_ok, (p_100 hK _ _ _).2⟩, (m_258 hK mc _ _ _ _).2, hw, ht, Or.inl ⟨rfl, rfl, rfl⟩, h2⟩
