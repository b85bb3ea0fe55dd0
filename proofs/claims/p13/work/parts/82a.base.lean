/-! THE LAW: its world, its beginning, what a turn compares -/
abbrev lW (cI cZ cL : ClassId) (a : Nat → Nat) (ao : Nat) (d : Nat → Nat) (C : St) (G : Nat → Int64) (M : St) : va_W := cO cI cZ cL a ao C G ++ mW cI cZ d M
def St0 (lim : Int32) : St := (fun k => if k = 604 then 1 else if k = 1040 then lim else 0, fun p => if p = 2 then fl4 20 (fun _ => 0) else fun _ => 0)
theorem rel0 {n : Nat} (hn : n ≤ 65536) : Rel (St0 (nI n)) (St0 (nI n)) 0 0 0 0 0 := by
  refine ⟨⟨fun _ _ => rfl, fun _ _ => rfl⟩, rfl, rfl, rfl, by omega, ⟨rfl, by omega, fun r h => absurd h (Nat.not_lt_zero _), n, hn, rfl⟩, ⟨rfl, rfl, fun i h => absurd h (by omega)⟩, by omega, fun j _ => Or.inl rfl, fun j _ => rfl, ⟨rfl, by omega, rfl, by omega⟩, fun _ _ => rfl, fun _ _ => rfl, fun _ _ => rfl, rfl, fun j h => absurd h (Nat.not_lt_zero _), fun j h => absurd h (Nat.not_lt_zero _)⟩
theorem lim_ok (x : Int32) : ∃ n, n ≤ 65536 ∧ limM x = nI n ∧ limC x = nI n := by
  have e0 : (0 : Int32) = nI 0 := by decide
  have e1 : (65536 : Int32) = nI 65536 := by decide
  have t0 : (0 : Int32).toInt = 0 := by decide
  have t1 : (65536 : Int32).toInt = 65536 := by decide
  have t2 : (nI 65537).toInt = 65537 := nI_toInt (by decide)
  rcases pk_ix x (n := 65537) (by decide) with z | z | ⟨j, hj, e⟩
  · refine ⟨0, by omega, ?_, ?_⟩
    · unfold limM
      rw [if_neg (fun h => by rw [Int32.le_iff_toInt_le] at h; rw [Int32.lt_iff_toInt_lt] at z; omega)]
      exact e0
    · unfold limC
      have h1 : x < 65536 := by rw [Int32.lt_iff_toInt_lt] at z ⊢; omega
      rw [if_pos h1, if_neg (fun h => by rw [Int32.lt_iff_toInt_lt] at h z; omega)]
      exact e0
  · have h2 : ¬ x < 65536 := fun h => by rw [Int32.lt_iff_toInt_lt] at h; rw [Int32.le_iff_toInt_le] at z; omega
    refine ⟨65536, by omega, ?_, ?_⟩
    · unfold limM
      rw [if_pos (by rw [Int32.le_iff_toInt_le] at z ⊢; omega), if_neg (fun h => by rw [Int32.le_iff_toInt_le] at h z; omega)]
      exact e1
    · unfold limC
      rw [if_neg h2, if_pos (by decide)]
      exact e1
  · subst e
    refine ⟨j, by omega, ?_, ?_⟩
    · unfold limM
      rw [if_pos (nI_pos' (by omega)), if_pos (by rw [e1]; exact (n_le (by omega) (by omega)).mpr (by omega))]
    · unfold limC
      by_cases h : j < 65536
      · have h1 : nI j < 65536 := by rw [e1]; exact (n_lt (by omega) (by omega)).mpr h
        rw [if_pos h1]
        by_cases h3 : 0 < j
        · have h2 : (0 : Int32) < nI j := by rw [e0]; exact (n_lt (by omega) (by omega)).mpr h3
          rw [if_pos h2]
        · have h2 : ¬ (0 : Int32) < nI j := fun h4 => by
            rw [e0] at h4
            exact h3 ((n_lt (by omega) (by omega)).mp h4)
          rw [if_neg h2, show j = 0 by omega]
          exact e0
      · have h1 : ¬ nI j < 65536 := fun h4 => by
          rw [e1] at h4
          exact h ((n_lt (by omega) (by omega)).mp h4)
        rw [if_neg h1, if_pos (show (0 : Int32) < 65536 by decide), show j = 65536 by omega]
        exact e1
/-- a wrapped call of the class and the reference's: the kind, the answer, alike behind them -/
def OpK (zc : Int32 × Int32 × St) (zm : Int32 × St) : Prop := zm.2.1 2000 = kx zc.1 ∧ (kx zc.1 = 0 → zc.1 = 0 ∧ zc.2.1 = zm.1) ∧ Sim zc.2.2 zm.2
theorem opK_T {zc : Int32 × Int32 × St} {zm : Int32 × St} (h : OpT zc zm) (kd : zc.1 = 0 ∨ zc.1 = 1 ∨ zc.1 = 2) : OpK zc zm := by
  have e : kx zc.1 = zc.1 := by
    rcases kd with e | e | e <;> rw [e] <;> decide
  exact ⟨by rw [e]; exact h.1, fun z => by rw [e] at z; exact ⟨z, h.2.1 z⟩, h.2.2⟩
theorem opK_X {zc : Int32 × Int32 × St} {zm : Int32 × St} (h : OpX zc zm) : OpK zc zm := by
  obtain ⟨h1, h2, h3, h4⟩ := h
  rcases h1 with e | e
  · exact ⟨by rw [h2, if_pos e, e]; decide, fun _ => ⟨e, h3 e⟩, h4⟩
  · exact ⟨by rw [h2, if_neg (by rw [e]; decide), e]; decide, fun z => absurd z (by rw [e]; decide), h4⟩
theorem kd_2 {k : Int32} (h : k = 0 ∨ k = 1) : k = 0 ∨ k = 1 ∨ k = 2 := h.elim Or.inl (fun e => Or.inr (Or.inl e))
theorem oG_0 {z : Int32 × Int32 × St} {g : Nat → Int64} (h : z.1 = 0) : oG z g 0 = z.2.1.toInt64 := by
  unfold oG
  rw [if_pos h]
  exact if_pos rfl
theorem cmp_0 (x : Int64) : lg_cmp x x = 0 := by simp [lg_cmp]
theorem out_eq {z : Int32 × Int32 × St} {g : Nat → Int64} {v : Int32} (h : z.1 = 0) (e : z.2.1 = v) : lg_cmp (oG z g (0 : Int32).toNatClampNeg) v.toInt64 = 0 := by
  rw [show (0 : Int32).toNatClampNeg = 0 from rfl, oG_0 h, e]
  exact cmp_0 _
theorem la_gt {L j : Nat} (hL : L ≤ 2049) (hj : j ≤ 4000) : nI L - 4 < nI j ↔ L < j + 4 := by
  rw [Int32.lt_iff_toInt_lt, nI_toInt (n := j) (by omega), Int32.toInt_sub, nI_toInt (n := L) (by omega), show (4 : Int32).toInt = 4 by decide, Int.bmod_def]
  split <;> omega
theorem la_arr {s : State} {args : Array Value} {ty : FieldType} (h : (Cond.arrayClass ty).before args s = true) (hy : ty = .int ∨ ty = .boolean ∨ ty = .long) : ∃ cA, ArrOfT s cA ty ∧ va_RA s cA ty := by
  obtain ⟨cA, kA, comp, h1, h2, h3⟩ := Cond.arrayClass_spec h
  refine ⟨cA, fun n z => ⟨fun k h => (by cases h), kA, h2, comp, h3⟩, ?_⟩
  rcases hy with rfl | rfl | rfl <;> exact h1
