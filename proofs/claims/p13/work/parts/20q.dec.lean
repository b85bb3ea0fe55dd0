/-! DECIDE: ranks -/
def cb (p : Nat → Bool) : Nat → Nat
  | 0 => 0
  | n + 1 => cb p n + (if p n = true then 1 else 0)
theorem cb_le (p : Nat → Bool) : ∀ n, cb p n ≤ n := by
  intro n
  induction n with
  | zero => exact Nat.le_refl _
  | succ n ih =>
    rw [cb]
    split <;> omega
theorem cb_congr {p q : Nat → Bool} : ∀ n, (∀ j, j < n → p j = q j) → cb p n = cb q n := by
  intro n
  induction n with
  | zero => intro _; rfl
  | succ n ih =>
    intro h
    rw [cb, cb, ih (fun j hj => h j (by omega)), h n (by omega)]
/-- an open case of an office -/
def opB (S : St) (o : Int32) (j : Nat) : Bool := decide (S.2 18 j = o) && decide (S.2 22 j = 0)
/-- j goes ahead of c -/
def goB (S : St) (j c : Nat) : Bool := decide (S.2 19 c < S.2 19 j) || (decide (S.2 19 j = S.2 19 c) && decide (j < c))
def rkB (S : St) (c : Nat) (j : Nat) : Bool := goB S j c && opB S (S.2 18 c) j
def ahB (S : St) (c : Nat) (j : Nat) : Bool := (opB S (S.2 18 c) j && !decide (S.2 20 j ≤ 1)) && goB S j c
theorem p_open {S : St} {j : Nat} (hj : j < 40) (o : Int32) : rs_X0_isOpen S (nI j) o = (if opB S o j = true then 1 else 0, S) ∧ ok_X0_isOpen S (nI j) o := by
  unfold rs_X0_isOpen rs_X0_isOpen_23 ok_X0_isOpen ok_X0_isOpen_23 opB
  rw [cl_n (by omega)]
  have vi : vp_in (nI j) 40 := vp_in_nI hj (by omega)
  by_cases a : S.2 18 j = o
  · by_cases b : S.2 22 j = 0
    · simp [a, b, vi]
    · simp [a, b, vi]
  · simp [a, vi]
theorem rank_loop {c K : Nat} (hK : K ≤ 40) (hc : c < K) : ∀ (k : Nat) (S : St) (j g : Nat), j + k = K → k + 1 ≤ g → S.1 686 = nI K → rs_X0_rank_4 g S (nI c) (nI (cb (rkB S c) j)) (nI j) = (nI (cb (rkB S c) K), S) ∧ ok_X0_rank_4 g S (nI c) (nI (cb (rkB S c) j)) (nI j) := by
  intro k
  induction k with
  | zero =>
    intro S j g hj hg h1
    obtain ⟨g, rfl⟩ : ∃ z, g = z + 1 := ⟨g - 1, by omega⟩
    have e : j = K := by omega
    subst e
    have z : nI j ≤ nI j := (n_le (by omega) (by omega)).mpr (Nat.le_refl _)
    rw [rs_X0_rank_4, ok_X0_rank_4, h1, if_pos z, if_pos z]
    exact ⟨rfl, trivial⟩
  | succ k ih =>
    intro S j g hj hg h1
    obtain ⟨g, rfl⟩ : ∃ z, g = z + 1 := ⟨g - 1, by omega⟩
    obtain ⟨i1, i2⟩ := ih S (j + 1) g (by omega) (by omega) h1
    have z : ¬ nI K ≤ nI j := fun w => absurd ((n_le (by omega) (by omega)).mp w) (by omega)
    have vj : vp_in (nI j) 40 := vp_in_nI (by omega) (by omega)
    have vc : vp_in (nI c) 40 := vp_in_nI (by omega) (by omega)
    obtain ⟨o1, o2⟩ := p_open (S := S) (j := j) (by omega) (S.2 18 c)
    rw [rs_X0_rank_4, ok_X0_rank_4, h1, if_neg z, if_neg z, cl_n (show c < 2 ^ 31 by omega), cl_n (show j < 2 ^ 31 by omega)]
    unfold rs_X0_rank_47 ok_X0_rank_47 rs_X0_rank_51 ok_X0_rank_51 rs_X0_rank_52 ok_X0_rank_52 rs_X0_rank_70 ok_X0_rank_70 rs_X0_rank_76 ok_X0_rank_76
    rw [cl_n (show c < 2 ^ 31 by omega), o1, show nI j + 1 = nI (j + 1) from nI_1 j]
    rw [cb] at i1 i2
    simp only [one0, eq_self, if_true, if_false]
    have cj : nI c ≤ nI j ↔ c ≤ j := n_le (by omega) (by omega)
    have hrk : rkB S c j = (goB S j c && opB S (S.2 18 c) j) := rfl
    by_cases p : opB S (S.2 18 c) j = true
    · simp only [p, if_true, one0, if_false]
      rw [hrk, p, Bool.and_true] at i1 i2
      unfold goB at i1 i2
      by_cases a : S.2 19 c < S.2 19 j
      · simp only [a, decide_true, Bool.true_or, if_true] at i1 i2
        rw [if_pos a, if_pos a, a1]
        exact ⟨i1, vj, vc, vc, o2, i2⟩
      · rw [if_neg a, if_neg a]
        by_cases b : S.2 19 j = S.2 19 c
        · rw [if_pos b, if_pos b]
          by_cases d : c ≤ j
          · rw [if_pos (cj.mpr d), if_pos (cj.mpr d)]
            simp [a, b, show ¬ j < c by omega] at i1 i2
            exact ⟨i1, vj, vc, vj, vc, i2⟩
          · rw [if_neg (fun w => d (cj.mp w)), if_neg (fun w => d (cj.mp w)), a1]
            simp [a, b, show j < c by omega] at i1 i2
            exact ⟨i1, vj, vc, vj, vc, vc, o2, i2⟩
        · rw [if_neg b, if_neg b]
          simp [a, b] at i1 i2
          exact ⟨i1, vj, vc, vj, vc, i2⟩
    · have pf : opB S (S.2 18 c) j = false := by simpa using p
      simp only [pf, Bool.false_eq_true, if_false, if_true]
      rw [hrk, pf, Bool.and_false] at i1 i2
      simp only [Bool.false_eq_true, if_false, Nat.add_zero] at i1 i2
      refine ⟨?_, vj, vc, ?_⟩
      · repeat' split
        all_goals exact i1
      · split
        · exact ⟨vc, o2, i2⟩
        · refine ⟨vj, vc, ?_⟩
          split
          · split
            · exact i2
            · exact ⟨vc, o2, i2⟩
          · exact i2
theorem ahead_loop {c K : Nat} (hK : K ≤ 40) (hc : c < K) : ∀ (k : Nat) (S : St) (j g : Nat), j + k = K → k + 1 ≤ g → S.1 686 = nI K → rs_X8_ahead_4 g S (nI c) (nI (cb (ahB S c) j)) (nI j) = (nI (cb (ahB S c) K), S) ∧ ok_X8_ahead_4 g S (nI c) (nI (cb (ahB S c) j)) (nI j) := by
  intro k
  induction k with
  | zero =>
    intro S j g hj hg h1
    obtain ⟨g, rfl⟩ : ∃ z, g = z + 1 := ⟨g - 1, by omega⟩
    have e : j = K := by omega
    subst e
    have z : nI j ≤ nI j := (n_le (by omega) (by omega)).mpr (Nat.le_refl _)
    rw [rs_X8_ahead_4, ok_X8_ahead_4, h1, if_pos z, if_pos z]
    exact ⟨rfl, trivial⟩
  | succ k ih =>
    intro S j g hj hg h1
    obtain ⟨g, rfl⟩ : ∃ z, g = z + 1 := ⟨g - 1, by omega⟩
    obtain ⟨i1, i2⟩ := ih S (j + 1) g (by omega) (by omega) h1
    have z : ¬ nI K ≤ nI j := fun w => absurd ((n_le (by omega) (by omega)).mp w) (by omega)
    have vj : vp_in (nI j) 40 := vp_in_nI (by omega) (by omega)
    have vc : vp_in (nI c) 40 := vp_in_nI (by omega) (by omega)
    have n0 : ∀ n : Nat, nI n + 0 = nI n := fun n => nI_add n 0
    rw [rs_X8_ahead_4, ok_X8_ahead_4, h1, if_neg z, if_neg z, cl_n (show c < 2 ^ 31 by omega), cl_n (show j < 2 ^ 31 by omega)]
    unfold rs_X8_ahead_50 ok_X8_ahead_50 rs_X8_ahead_51 ok_X8_ahead_51 rs_X8_ahead_94 ok_X8_ahead_94 rs_X8_ahead_98 ok_X8_ahead_98 rs_X8_ahead_99 ok_X8_ahead_99
    rw [cl_n (show c < 2 ^ 31 by omega), cl_n (show j < 2 ^ 31 by omega), show nI j + 1 = nI (j + 1) from nI_1 j, n0, a1]
    rw [cb] at i1 i2
    simp only [one0, eq_self, if_true, if_false]
    have cj : nI c ≤ nI j ↔ c ≤ j := n_le (by omega) (by omega)
    by_cases p : opB S (S.2 18 c) j = true ∧ ¬ S.2 20 j ≤ 1
    · have p1 : S.2 18 j = S.2 18 c ∧ S.2 22 j = 0 := by
        have := p.1
        unfold opB at this
        simpa using this
      have hah : ahB S c j = goB S j c := by
        unfold ahB
        rw [p.1, decide_eq_false p.2]
        rfl
      rw [hah] at i1 i2
      simp only [if_pos p1.1, if_pos p1.2, if_neg p.2]
      unfold goB at i1 i2
      by_cases a : S.2 19 c < S.2 19 j
      · simp only [a, decide_true, Bool.true_or, if_true] at i1 i2
        rw [if_pos a, if_pos a]
        exact ⟨i1, vj, vc, vj, vj, vj, vc, i2⟩
      · rw [if_neg a, if_neg a]
        by_cases b : S.2 19 j = S.2 19 c
        · rw [if_pos b, if_pos b]
          by_cases d : c ≤ j
          · rw [if_pos (cj.mpr d), if_pos (cj.mpr d)]
            simp [a, b, show ¬ j < c by omega] at i1 i2
            exact ⟨i1, vj, vc, vj, vj, vj, vc, vj, vc, i2⟩
          · rw [if_neg (fun w => d (cj.mp w)), if_neg (fun w => d (cj.mp w))]
            simp [a, b, show j < c by omega] at i1 i2
            exact ⟨i1, vj, vc, vj, vj, vj, vc, vj, vc, i2⟩
        · rw [if_neg b, if_neg b]
          simp [a, b] at i1 i2
          exact ⟨i1, vj, vc, vj, vj, vj, vc, vj, vc, i2⟩
    · have hah : ahB S c j = false := by
        unfold ahB
        by_cases q : opB S (S.2 18 c) j = true
        · have : S.2 20 j ≤ 1 := by
            by_cases w : S.2 20 j ≤ 1
            · exact w
            · exact absurd ⟨q, w⟩ p
          rw [decide_eq_true this]
          simp
        · have : opB S (S.2 18 c) j = false := by simpa using q
          rw [this]
          rfl
      rw [hah] at i1 i2
      simp only [Bool.false_eq_true, if_false, Nat.add_zero] at i1 i2
      by_cases q1 : S.2 18 j = S.2 18 c
      · by_cases q2 : S.2 22 j = 0
        · have q3 : S.2 20 j ≤ 1 := by
            by_cases w : S.2 20 j ≤ 1
            · exact w
            · exact absurd ⟨by unfold opB; rw [decide_eq_true q1, decide_eq_true q2]; rfl, w⟩ p
          simp only [if_pos q1, if_pos q2, if_pos q3]
          exact ⟨i1, vj, vc, vj, vj, i2⟩
        · simp only [if_pos q1, if_neg q2]
          exact ⟨i1, vj, vc, vj, i2⟩
      · simp only [if_neg q1]
        exact ⟨i1, vj, vc, i2⟩
