/-! DECIDE: the loops -/
def sR (S : St) (p : Nat) (f : Nat → Int32) : St := (S.1, va_up S.2 p f)
theorem sR_1 (S : St) (p : Nat) (f : Nat → Int32) : (sR S p f).1 = S.1 := rfl
theorem sR_2 (S : St) (p : Nat) (f : Nat → Int32) (q : Nat) : (sR S p f).2 q = if q = p then f else S.2 q := rfl
theorem sA_R (S : St) (p j : Nat) (v : Int32) (f : Nat → Int32) : sA (sR S p f) p j v = sR S p (upd f j v) := by
  unfold sA sR
  dsimp only
  rw [bx_uu]
  unfold va_up
  rw [if_pos rfl]
theorem sR_id (S : St) (p : Nat) : sR S p (S.2 p) = S := by
  unfold sR
  have : va_up S.2 p (S.2 p) = S.2 := by
    funext q
    unfold va_up
    split
    · next h => rw [h]
    · rfl
  rw [this]
theorem Sh.wR {C M : St} (h : Sh C M) (p : Nat) (f : Nat → Int32) : Sh (sR C p f) (sR M p f) := by
  refine ⟨h.1, fun q h1 => ?_⟩
  rw [sR_2, sR_2]
  split
  · rfl
  · exact h.2 q h1
/-- which case the cap doesn't reach -/
def cuB (S : St) (o cap : Int32) (K j : Nat) : Bool := opB S o j && (!decide (S.2 20 j < 2) && decide (¬ nI (cb (rkB S j) K) < cap))
/-- the paths when the first n cases are looked through -/
def paF (S : St) (o cap : Int32) (K n : Nat) : Nat → Int32 := fun j => if decide (j < n) && cuB S o cap K j = true then 1 else S.2 20 j
theorem paF_0 (S : St) (o cap : Int32) (K : Nat) : paF S o cap K 0 = S.2 20 := by
  funext j
  unfold paF
  simp
theorem paF_s {S : St} {o cap : Int32} {K n : Nat} : paF S o cap K (n + 1) = if cuB S o cap K n = true then upd (paF S o cap K n) n 1 else paF S o cap K n := by
  by_cases q : cuB S o cap K n = true
  · rw [if_pos q]
    funext j
    rw [upd_at]
    unfold paF
    by_cases e : j = n
    · subst e
      simp [q]
    · rw [if_neg e]
      by_cases w : j < n
      · simp [w, show j < n + 1 by omega]
      · simp [w, show ¬ j < n + 1 by omega]
  · rw [if_neg q]
    funext j
    unfold paF
    have qf : cuB S o cap K n = false := by simpa using q
    by_cases e : j = n
    · subst e
      simp [qf]
    · by_cases w : j < n
      · simp [w, show j < n + 1 by omega]
      · simp [w, show ¬ j < n + 1 by omega]
theorem paF_n {S : St} {o cap : Int32} {K n : Nat} : paF S o cap K n n = S.2 20 n := by
  unfold paF
  simp
/-- ranks don't look at paths -/
theorem rk_R {S : St} {f : Nat → Int32} {c : Nat} : rkB (sR S 20 f) c = rkB S c := rfl
theorem op_R {S : St} {f : Nat → Int32} {o : Int32} : opB (sR S 20 f) o = opB S o := rfl
theorem cut_loop {o cap : Int32} {K : Nat} (hK : K ≤ 40) (S : St) (h1 : S.1 686 = nI K) : ∀ (k n g : Nat), n + k = K → k + 1 ≤ g → rs_X0_cutPaths_2 g (sR S 20 (paF S o cap K n)) o cap (nI n) = sR S 20 (paF S o cap K K) ∧ ok_X0_cutPaths_2 g (sR S 20 (paF S o cap K n)) o cap (nI n) := by
  intro k
  induction k with
  | zero =>
    intro n g hn hg
    obtain ⟨g, rfl⟩ : ∃ z, g = z + 1 := ⟨g - 1, by omega⟩
    have e : n = K := by omega
    subst e
    have z : nI n ≤ nI n := (n_le (by omega) (by omega)).mpr (Nat.le_refl _)
    rw [rs_X0_cutPaths_2, ok_X0_cutPaths_2, sR_1, h1, if_pos z, if_pos z]
    exact ⟨rfl, trivial⟩
  | succ k ih =>
    intro n g hn hg
    obtain ⟨g, rfl⟩ : ∃ z, g = z + 1 := ⟨g - 1, by omega⟩
    obtain ⟨i1, i2⟩ := ih (n + 1) g (by omega) (by omega)
    have z : ¬ nI K ≤ nI n := fun w => absurd ((n_le (by omega) (by omega)).mp w) (by omega)
    have vn : vp_in (nI n) 40 := vp_in_nI (by omega) (by omega)
    obtain ⟨o1, o2⟩ := p_open (S := sR S 20 (paF S o cap K n)) (j := n) (by omega) o
    rw [rs_X0_cutPaths_2, ok_X0_cutPaths_2, sR_1, h1, if_neg z, if_neg z, o1, op_R]
    unfold rs_X0_cutPaths_16 ok_X0_cutPaths_16 rs_X0_cutPaths_34 ok_X0_cutPaths_34 rs_X0_cutPaths_45 ok_X0_cutPaths_45
    dsimp only
    rw [cl_n (show n < 2 ^ 31 by omega), show nI n + 1 = nI (n + 1) from nI_1 n]
    rw [show (sR S 20 (paF S o cap K n)).2 20 n = S.2 20 n from paF_n]
    rw [paF_s] at i1 i2
    by_cases p : opB S o n = true
    · simp only [p, if_true, one0, if_false]
      by_cases q : S.2 20 n < 2
      · have cf : cuB S o cap K n = false := by
          unfold cuB
          rw [decide_eq_true q]
          simp
        rw [if_pos q, if_pos q]
        simp only [cf, Bool.false_eq_true, if_false] at i1 i2
        exact ⟨i1, o2, vn, i2⟩
      · obtain ⟨r1, r2⟩ := rank_loop (c := n) hK (by omega) K (sR S 20 (paF S o cap K n)) 0 100 (by omega) (by omega) h1
        have r1' : rs_X0_rank (sR S 20 (paF S o cap K n)) (nI n) = (nI (cb (rkB S n) K), sR S 20 (paF S o cap K n)) := r1
        have r2' : ok_X0_rank (sR S 20 (paF S o cap K n)) (nI n) := r2
        rw [if_neg q, if_neg q, r1']
        dsimp only
        by_cases w : nI (cb (rkB S n) K) < cap
        · have cf : cuB S o cap K n = false := by
            have wf : decide (¬ nI (cb (rkB S n) K) < cap) = false := decide_eq_false (fun z => z w)
            unfold cuB
            rw [wf]
            simp
          rw [if_pos w, if_pos w]
          simp only [cf, Bool.false_eq_true, if_false] at i1 i2
          exact ⟨i1, o2, vn, r2', i2⟩
        · have cf : cuB S o cap K n = true := by
            unfold cuB
            rw [p, decide_eq_false q, decide_eq_true w]
            rfl
          rw [if_neg w, if_neg w, sA_R]
          simp only [cf, if_true] at i1 i2
          exact ⟨i1, o2, vn, r2', vn, i2⟩
    · have pf : opB S o n = false := by simpa using p
      have cf : cuB S o cap K n = false := by
        unfold cuB
        rw [pf]
        rfl
      simp only [pf, Bool.false_eq_true, if_false, if_true]
      simp only [cf, Bool.false_eq_true, if_false] at i1 i2
      exact ⟨i1, o2, i2⟩
/-- the decided ones when the first n are looked through -/
def deF (S : St) (o : Int32) (n : Nat) : Nat → Int32 := fun j => if decide (j < n) && opB S o j = true then 1 else S.2 22 j
theorem deF_0 (S : St) (o : Int32) : deF S o 0 = S.2 22 := by
  funext j
  unfold deF
  simp
theorem deF_s {S : St} {o : Int32} {n : Nat} : deF S o (n + 1) = if opB S o n = true then upd (deF S o n) n 1 else deF S o n := by
  by_cases q : opB S o n = true
  · rw [if_pos q]
    funext j
    rw [upd_at]
    unfold deF
    by_cases e : j = n
    · subst e
      simp [q]
    · rw [if_neg e]
      by_cases w : j < n
      · simp [w, show j < n + 1 by omega]
      · simp [w, show ¬ j < n + 1 by omega]
  · rw [if_neg q]
    funext j
    unfold deF
    have qf : opB S o n = false := by simpa using q
    by_cases e : j = n
    · subst e
      simp [qf]
    · by_cases w : j < n
      · simp [w, show j < n + 1 by omega]
      · simp [w, show ¬ j < n + 1 by omega]
theorem deF_n {S : St} {o : Int32} {n : Nat} : deF S o n n = S.2 22 n := by
  unfold deF
  simp
theorem op_D {S : St} {o : Int32} {n : Nat} : opB (sR S 22 (deF S o n)) o n = opB S o n := by
  show (decide (S.2 18 n = o) && decide (deF S o n n = 0)) = _
  rw [deF_n]
  rfl
theorem nar1 : vp_nar .boolean 1 = 1 := by decide
theorem close_loop {o : Int32} {K : Nat} (hK : K ≤ 40) (S : St) (h1 : S.1 686 = nI K) : ∀ (k n g : Nat), n + k = K → k + 1 ≤ g → rs_X0_close_4 g (sR S 22 (deF S o n)) o (nI (cb (opB S o) n)) (nI n) = (nI (cb (opB S o) K), sI (sR S 22 (deF S o K)) 687 (S.1 687 + nI (cb (opB S o) K))) ∧ ok_X0_close_4 g (sR S 22 (deF S o n)) o (nI (cb (opB S o) n)) (nI n) := by
  intro k
  induction k with
  | zero =>
    intro n g hn hg
    obtain ⟨g, rfl⟩ : ∃ z, g = z + 1 := ⟨g - 1, by omega⟩
    have e : n = K := by omega
    subst e
    have z : nI n ≤ nI n := (n_le (by omega) (by omega)).mpr (Nat.le_refl _)
    rw [rs_X0_close_4, ok_X0_close_4, sR_1, h1, if_pos z, if_pos z]
    exact ⟨rfl, trivial⟩
  | succ k ih =>
    intro n g hn hg
    obtain ⟨g, rfl⟩ : ∃ z, g = z + 1 := ⟨g - 1, by omega⟩
    obtain ⟨i1, i2⟩ := ih (n + 1) g (by omega) (by omega)
    have z : ¬ nI K ≤ nI n := fun w => absurd ((n_le (by omega) (by omega)).mp w) (by omega)
    have vn : vp_in (nI n) 40 := vp_in_nI (by omega) (by omega)
    obtain ⟨o1, o2⟩ := p_open (S := sR S 22 (deF S o n)) (j := n) (by omega) o
    rw [rs_X0_close_4, ok_X0_close_4, sR_1, h1, if_neg z, if_neg z, o1, op_D]
    unfold rs_X0_close_18 ok_X0_close_18 rs_X0_close_31 ok_X0_close_31
    dsimp only
    rw [cl_n (show n < 2 ^ 31 by omega), show nI n + 1 = nI (n + 1) from nI_1 n, nar1]
    rw [deF_s, cb] at i1 i2
    by_cases p : opB S o n = true
    · simp only [p, if_true, one0, if_false]
      simp only [p, if_true] at i1 i2
      rw [sA_R, a1]
      exact ⟨i1, o2, vn, i2⟩
    · have pf : opB S o n = false := by simpa using p
      simp only [pf, Bool.false_eq_true, if_false, if_true]
      simp only [pf, Bool.false_eq_true, if_false, Nat.add_zero] at i1 i2
      exact ⟨i1, o2, i2⟩
