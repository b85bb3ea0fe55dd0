/-! PURE ROWS: states, what a write leaves, the shared part of the two states -/
theorem sI_1 (S : St) (k : Nat) (v : Int32) (j : Nat) : (sI S k v).1 j = if j = k then v else S.1 j := rfl
theorem sI_2 (S : St) (k : Nat) (v : Int32) : (sI S k v).2 = S.2 := rfl
theorem sA_1 (S : St) (p j : Nat) (v : Int32) : (sA S p j v).1 = S.1 := rfl
theorem sA_2 (S : St) (p j : Nat) (v : Int32) (q : Nat) : (sA S p j v).2 q = if q = p then upd (S.2 p) j v else S.2 q := rfl
theorem upd_at (f : Nat → Int32) (k : Nat) (v : Int32) (j : Nat) : upd f k v j = if j = k then v else f j := rfl
theorem upd_id (f : Nat → Int32) (k : Nat) : upd f k (f k) = f := by
  funext j
  rw [upd_at]
  split
  · next h => rw [h]
  · rfl
theorem cl_n {n : Nat} (h : n < 2 ^ 31) : (nI n).toNatClampNeg = n := nI_clamp h
/-- the shared part: what both hold under the same number (the count of cases and their offices apart: the class writes them first, the reference last) -/
def shI (k : Nat) : Bool := !(k == 686) && !(k == 687) && !(k == 961) && !(k == 1042) && !(k == 1044) && k.blt 2000
def shA (p : Nat) : Bool := !(p == 14) && !(p == 18) && !(p == 25) && p.blt 30
def Sh (C M : St) : Prop := (∀ k, shI k = true → C.1 k = M.1 k) ∧ ∀ p, shA p = true → C.2 p = M.2 p
theorem Sh.wI {C M : St} (h : Sh C M) (k : Nat) (v : Int32) : Sh (sI C k v) (sI M k v) := by
  refine ⟨fun j h1 => ?_, h.2⟩
  rw [sI_1, sI_1]
  split
  · rfl
  · exact h.1 j h1
theorem Sh.cI {C M : St} (h : Sh C M) (k : Nat) (v : Int32) (hk : shI k = false) : Sh (sI C k v) M := by
  refine ⟨fun j h1 => ?_, h.2⟩
  rw [sI_1, if_neg (fun e => by rw [e, hk] at h1; cases h1)]
  exact h.1 j h1
theorem Sh.mI {C M : St} (h : Sh C M) (k : Nat) (v : Int32) (hk : shI k = false) : Sh C (sI M k v) := by
  refine ⟨fun j h1 => ?_, h.2⟩
  rw [sI_1, if_neg (fun e => by rw [e, hk] at h1; cases h1)]
  exact h.1 j h1
theorem Sh.wA {C M : St} (h : Sh C M) (p j : Nat) (v : Int32) : Sh (sA C p j v) (sA M p j v) := by
  refine ⟨h.1, fun q h1 => ?_⟩
  rw [sA_2, sA_2]
  split
  · next e => rw [e] at h1; rw [h.2 p h1]
  · exact h.2 q h1
theorem Sh.cA {C M : St} (h : Sh C M) (p j : Nat) (v : Int32) (hp : shA p = false) : Sh (sA C p j v) M := by
  refine ⟨h.1, fun q h1 => ?_⟩
  rw [sA_2, if_neg (fun e => by rw [e, hp] at h1; cases h1)]
  exact h.2 q h1
theorem Sh.mA {C M : St} (h : Sh C M) (p j : Nat) (v : Int32) (hp : shA p = false) : Sh C (sA M p j v) := by
  refine ⟨h.1, fun q h1 => ?_⟩
  rw [sA_2, if_neg (fun e => by rw [e, hp] at h1; cases h1)]
  exact h.2 q h1
theorem Sh.i {C M : St} (h : Sh C M) (k : Nat) (hk : shI k = true := by decide) : M.1 k = C.1 k := (h.1 k hk).symm
theorem Sh.a {C M : St} (h : Sh C M) (p : Nat) (hp : shA p = true := by decide) : M.2 p = C.2 p := (h.2 p hp).symm
theorem sA_id (S : St) (p j : Nat) : sA S p j (S.2 p j) = S := by
  unfold sA
  have : va_up S.2 p (upd (S.2 p) j (S.2 p j)) = S.2 := by
    funext q
    show (if q = p then _ else _) = _
    split
    · next h => rw [upd_id, h]
    · rfl
  rw [this]
/-- numbers of the literals -/
theorem i_lit : (0 : Int32) = nI 0 ∧ (1 : Int32) = nI 1 ∧ (2 : Int32) = nI 2 ∧ (3 : Int32) = nI 3 ∧ (4 : Int32) = nI 4 ∧ (8 : Int32) = nI 8 ∧ (12 : Int32) = nI 12 ∧ (16 : Int32) = nI 16 ∧ (40 : Int32) = nI 40 ∧ (60 : Int32) = nI 60 := by decide +kernel
theorem n_lt {a b : Nat} (ha : a < 2 ^ 31) (hb : b < 2 ^ 31) : nI a < nI b ↔ a < b := nI_ltI ha hb
theorem n_le {a b : Nat} (ha : a < 2 ^ 31) (hb : b < 2 ^ 31) : nI a ≤ nI b ↔ a ≤ b := nI_leI ha hb
theorem n_eq {a b : Nat} (ha : a < 2 ^ 31) (hb : b < 2 ^ 31) : nI a = nI b ↔ a = b := nI_eq ha hb
theorem n_sub {a b : Nat} (h : b ≤ a) : nI a - nI b = nI (a - b) := pk_sub h
/-- the machine's leaves -/
theorem p_put_lt {C : St} {D : Nat} (x : Int32) (hD : C.1 1042 = nI D) (h : D < 8) : rs_X4_put C x = sI (sI (sA C 27 D x) 1042 (nI (D + 1))) 1043 (C.1 1043 + 1) := by
  unfold rs_X4_put
  rw [hD, if_pos (by rw [i_lit.2.2.2.2.2.1]; exact (n_lt (by omega) (by omega)).mpr h), cl_n (by omega)]
  unfold rs_X4_put_25 rs_X4_put_35
  rw [sA_1, hD, nI_1]
  rfl
theorem p_put_8 {C : St} (x : Int32) (hD : C.1 1042 = nI 8) : rs_X4_put C x = sI C 1045 3 := by
  unfold rs_X4_put
  rw [hD, if_neg (by decide)]
theorem o_put {C : St} {D : Nat} (x : Int32) (hD : C.1 1042 = nI D) (h : D ≤ 8) : ok_X4_put C x := by
  unfold ok_X4_put
  rw [hD]
  split
  · next c => 
    rw [i_lit.2.2.2.2.2.1] at c
    exact ⟨vp_in_nI ((n_lt (by omega) (by omega)).mp c) (by omega), trivial⟩
  · trivial
theorem p_push_lt {M : St} {D : Nat} (x : Int32) (hD : M.1 1042 = nI D) (h : D < 8) : rs_X8_push M x = sI (sA M 27 D x) 1042 (nI (D + 1)) := by
  unfold rs_X8_push
  rw [hD, if_neg (by rw [i_lit.2.2.2.2.2.1]; exact fun q => absurd ((n_eq (by omega) (by omega)).mp q) (by omega)), cl_n (by omega)]
  unfold rs_X8_push_27
  rw [sA_1, hD, nI_1]
theorem p_push_8 {M : St} (x : Int32) (hD : M.1 1042 = nI 8) : rs_X8_push M x = sI M 1045 3 := by
  unfold rs_X8_push
  rw [hD, if_pos (by decide)]
theorem o_push {M : St} {D : Nat} (x : Int32) (hD : M.1 1042 = nI D) (h : D ≤ 8) : ok_X8_push M x := by
  unfold ok_X8_push
  rw [hD]
  split
  · trivial
  · next c => 
    refine ⟨vp_in_nI ?_ (by omega), trivial⟩
    rcases Nat.lt_or_ge D 8 with q | q
    · exact q
    · exact absurd (by rw [show D = 8 by omega]; decide) c
theorem p_take {C : St} {D k : Nat} (hk : k ≤ 8) (hD : C.1 1042 = nI D) (h : D ≤ 8) : rs_X4_canTake C (nI k) = if k ≤ D then (1, C) else (0, sI C 1045 3) := by
  unfold rs_X4_canTake
  rw [hD]
  by_cases q : k ≤ D
  · rw [if_pos q, if_pos ((n_le (by omega) (by omega)).mpr q)]
  · rw [if_neg q, if_neg (fun z => q ((n_le (by omega) (by omega)).mp z))]
theorem o_take {C : St} {x : Int32} : ok_X4_canTake C x := by
  unfold ok_X4_canTake
  split <;> trivial
