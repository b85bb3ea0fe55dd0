/-! A RULE'S RUN with what it tells -/
def FRel (C M : St) (T : Nat) : Prop := C.1 961 = nI T ∧ M.1 2001 = nI (min T 60) ∧ ∀ i, i < min T 60 → C.2 25 (4 * i) = M.2 30 i ∧ C.2 25 (4 * i + 1) = M.2 31 i ∧ C.2 25 (4 * i + 2) = M.2 32 i ∧ C.2 25 (4 * i + 3) = M.2 33 i
def fxI (k : Nat) : Bool := !(k == 1042) && !(k == 1043) && !(k == 1044) && !(k == 1045) && !(k == 961) && !(k == 2001)
def fxA (p : Nat) : Bool := !(p == 7) && !(p == 8) && !(p == 12) && !(p == 23) && !(p == 25) && !(p == 27) && !(p == 30) && !(p == 31) && !(p == 32) && !(p == 33)
def Fx (C C1 : St) (c : Nat) : Prop := (∀ k, fxI k = true → C1.1 k = C.1 k) ∧ (∀ p, fxA p = true → C1.2 p = C.2 p) ∧ ∀ j, j ≠ c → C1.2 23 j = C.2 23 j
theorem Fx.rf {C : St} {c : Nat} : Fx C C c := ⟨fun _ _ => rfl, fun _ _ => rfl, fun _ _ => rfl⟩
theorem Fx.tr {C C1 C2 : St} {c : Nat} (h : Fx C C1 c) (h2 : Fx C1 C2 c) : Fx C C2 c := ⟨fun k a => (h2.1 k a).trans (h.1 k a), fun p a => (h2.2.1 p a).trans (h.2.1 p a), fun j a => (h2.2.2 j a).trans (h.2.2 j a)⟩
theorem Fx.of {C C1 : St} (c : Nat) (h : Fr C C1) : Fx C C1 c := ⟨fun k a => h.1 k (fun e => by rw [e] at a; cases a) (fun e => by rw [e] at a; cases a) (fun e => by rw [e] at a; cases a) (fun e => by rw [e] at a; cases a), fun p a => h.2 p (fun e => by rw [e] at a; cases a) (fun e => by rw [e] at a; cases a), fun j _ => by rw [h.2 23 (by decide) (by decide)]⟩
theorem Fx.wI {C C1 : St} {c : Nat} (h : Fx C C1 c) (k : Nat) (v : Int32) (hk : fxI k = false) : Fx C (sI C1 k v) c := ⟨fun j a => by rw [sI_1, if_neg (fun e => by rw [e, hk] at a; cases a)]; exact h.1 j a, h.2⟩
theorem Fx.wA {C C1 : St} {c : Nat} (h : Fx C C1 c) (p j : Nat) (v : Int32) (hp : fxA p = false) (h23 : (p == 23) = false) : Fx C (sA C1 p j v) c := ⟨h.1, fun q a => by rw [sA_2, if_neg (fun e => by rw [e, hp] at a; cases a)]; exact h.2.1 q a, fun i a => by rw [sA_2, if_neg (fun e => by rw [← e] at h23; cases h23)]; exact h.2.2 i a⟩
theorem Fx.w23 {C C1 : St} {c : Nat} (h : Fx C C1 c) (v : Int32) : Fx C (sA C1 23 c v) c := ⟨h.1, fun q a => by rw [sA_2, if_neg (fun e => by rw [e] at a; cases a)]; exact h.2.1 q a, fun i a => by rw [sA_2, if_pos rfl, upd_at, if_neg a]; exact h.2.2 i a⟩
theorem m4 {T : Nat} : nI T * 4 = nI (4 * T) := by
  rw [show (4 : Int32) = nI 4 by decide, pk_mul, Nat.mul_comm]
theorem a1 {n : Nat} : nI n + 1 = nI (n + 1) := nI_1 n
theorem a2 {n : Nat} : nI n + 2 = nI (n + 2) := nI_add n 2
theorem a3 {n : Nat} : nI n + 3 = nI (n + 3) := nI_add n 3
theorem le60 {T : Nat} (h : T < 2 ^ 31) : (60 : Int32) ≤ nI T ↔ 60 ≤ T := n_le (a := 60) (by omega) h
theorem p_tell {C : St} {T : Nat} (x1 x2 x3 x4 : Int32) (hT : C.1 961 = nI T) (h : T ≤ 100000) : rs_X3_tell C x1 x2 x3 x4 = if 60 ≤ T then sI C 961 (nI (T + 1)) else sI (sA (sA (sA (sA C 25 (4 * T) x1) 25 (4 * T + 1) x2) 25 (4 * T + 2) x3) 25 (4 * T + 3) x4) 961 (nI (T + 1)) := by
  unfold rs_X3_tell rs_X3_tell_25 rs_X3_tell_35 rs_X3_tell_45 rs_X3_tell_56
  simp only [sA_1]
  rw [hT]
  by_cases q : 60 ≤ T
  · rw [if_pos ((le60 (by omega)).mpr q), if_pos q, a1]
  · rw [if_neg (fun z => q ((le60 (by omega)).mp z)), if_neg q, m4, a1, a1, a2, a3, cl_n (by omega), cl_n (by omega), cl_n (by omega), cl_n (by omega)]
theorem o_tell {C : St} {T : Nat} (x1 x2 x3 x4 : Int32) (hT : C.1 961 = nI T) (h : T ≤ 100000) : ok_X3_tell C x1 x2 x3 x4 := by
  unfold ok_X3_tell ok_X3_tell_25 ok_X3_tell_35 ok_X3_tell_45 ok_X3_tell_56
  rw [hT]
  by_cases q : 60 ≤ T
  · rw [if_pos ((le60 (by omega)).mpr q)]
    trivial
  · rw [if_neg (fun z => q ((le60 (by omega)).mp z)), m4, a1, a2, a3]
    exact ⟨vp_in_nI (by omega) (by omega), vp_in_nI (by omega) (by omega), vp_in_nI (by omega) (by omega), vp_in_nI (by omega) (by omega), trivial⟩
theorem p_fails {M : St} {F : Nat} (x1 : Int32) (hF : M.1 2001 = nI F) (h : F ≤ 60) : rs_X8_fails M x1 = if 60 ≤ F then M else sI (sA (sA (sA (sA M 30 F x1) 31 F (M.1 1045)) 32 F (M.1 1043)) 33 F (M.1 686)) 2001 (nI (F + 1)) := by
  unfold rs_X8_fails rs_X8_fails_19 rs_X8_fails_32 rs_X8_fails_45 rs_X8_fails_58
  simp only [sA_1]
  rw [hF]
  by_cases q : 60 ≤ F
  · rw [if_pos ((le60 (by omega)).mpr q), if_pos q]
  · rw [if_neg (fun z => q ((le60 (by omega)).mp z)), if_neg q, a1, cl_n (by omega)]
theorem o_fails {M : St} {F : Nat} (x1 : Int32) (hF : M.1 2001 = nI F) (h : F ≤ 60) : ok_X8_fails M x1 := by
  unfold ok_X8_fails ok_X8_fails_19 ok_X8_fails_32 ok_X8_fails_45 ok_X8_fails_58
  simp only [sA_1]
  rw [hF]
  by_cases q : 60 ≤ F
  · rw [if_pos ((le60 (by omega)).mpr q)]
    trivial
  · rw [if_neg (fun z => q ((le60 (by omega)).mp z))]
    exact ⟨vp_in_nI (by omega) (by omega), vp_in_nI (by omega) (by omega), vp_in_nI (by omega) (by omega), vp_in_nI (by omega) (by omega), trivial⟩
/-- a failure told on both sides -/
theorem tell_sim {C M : St} {T c : Nat} {x1 : Int32} (h : Sh C M) (hF : FRel C M T) (hT : T ≤ 100000) (hc : M.1 686 = nI c) :
    Sh (rs_X3_tell C x1 (C.1 1045) (C.1 1043) (nI c)) (rs_X8_fails M x1) ∧ FRel (rs_X3_tell C x1 (C.1 1045) (C.1 1043) (nI c)) (rs_X8_fails M x1) (T + 1) ∧ ok_X3_tell C x1 (C.1 1045) (C.1 1043) (nI c) ∧ ok_X8_fails M x1 ∧ Fx C (rs_X3_tell C x1 (C.1 1045) (C.1 1043) (nI c)) c ∧ Fx M (rs_X8_fails M x1) c ∧ (rs_X3_tell C x1 (C.1 1045) (C.1 1043) (nI c)).2 23 = C.2 23 ∧ (rs_X8_fails M x1).2 23 = M.2 23 := by
  obtain ⟨f1, f2, f3⟩ := hF
  have o1 := o_tell x1 (C.1 1045) (C.1 1043) (nI c) f1 hT
  have o2 := o_fails x1 f2 (Nat.min_le_right _ _)
  rw [p_tell _ _ _ _ f1 hT, p_fails _ f2 (Nat.min_le_right _ _)]
  by_cases q : 60 ≤ T
  · have e1 : min T 60 = 60 := Nat.min_eq_right q
    have e2 : min (T + 1) 60 = 60 := Nat.min_eq_right (by omega)
    rw [if_pos q, if_pos (by omega)]
    refine ⟨h.cI _ _ (by decide), ⟨rfl, by rw [e2, ← e1]; exact f2, fun i hi => ?_⟩, o1, o2, Fx.rf.wI _ _ (by decide), Fx.rf, rfl, rfl⟩
    rw [e2] at hi
    rw [e1] at f3
    exact f3 i hi
  · have e1 : min T 60 = T := Nat.min_eq_left (by omega)
    have e2 : min (T + 1) 60 = T + 1 := Nat.min_eq_left (by omega)
    rw [e1] at f2 f3 ⊢
    rw [if_neg q, if_neg q]
    refine ⟨(((((((((h.cA 25 _ _ (by decide)).cA 25 _ _ (by decide)).cA 25 _ _ (by decide)).cA 25 _ _ (by decide)).cI 961 _ (by decide)).mA 30 _ _ (by decide)).mA 31 _ _ (by decide)).mA 32 _ _ (by decide)).mA 33 _ _ (by decide)).mI 2001 _ (by decide), ⟨rfl, by rw [e2]; rfl, fun i hi => ?_⟩, o1, o2, ((((Fx.rf.wA 25 _ _ (by decide) (by decide)).wA 25 _ _ (by decide) (by decide)).wA 25 _ _ (by decide) (by decide)).wA 25 _ _ (by decide) (by decide)).wI 961 _ (by decide), ((((Fx.rf.wA 30 _ _ (by decide) (by decide)).wA 31 _ _ (by decide) (by decide)).wA 32 _ _ (by decide) (by decide)).wA 33 _ _ (by decide) (by decide)).wI 2001 _ (by decide), rfl, rfl⟩
    rw [e2] at hi
    simp only [sI_2, sA_2, if_true, upd_at, show ((30 : Nat) = 31) = False from eq_false (by decide), show ((30 : Nat) = 32) = False from eq_false (by decide), show ((30 : Nat) = 33) = False from eq_false (by decide), show ((31 : Nat) = 32) = False from eq_false (by decide), show ((31 : Nat) = 33) = False from eq_false (by decide), show ((32 : Nat) = 33) = False from eq_false (by decide), show ((31 : Nat) = 30) = False from eq_false (by decide), show ((32 : Nat) = 31) = False from eq_false (by decide), show ((32 : Nat) = 30) = False from eq_false (by decide), show ((33 : Nat) = 32) = False from eq_false (by decide), show ((33 : Nat) = 31) = False from eq_false (by decide), show ((33 : Nat) = 30) = False from eq_false (by decide), if_false]
    by_cases w : i = T
    · subst w
      rw [if_neg (by omega), if_neg (by omega), if_neg (by omega), if_pos rfl, if_pos rfl, if_neg (by omega), if_neg (by omega), if_pos rfl, if_pos rfl, if_neg (by omega), if_pos rfl, if_pos rfl, if_pos rfl, if_pos rfl]
      exact ⟨rfl, (h.i 1045).symm, (h.i 1043).symm, hc.symm⟩
    · simp only [show (4 * i = 4 * T + 3) = False from eq_false (by omega), show (4 * i = 4 * T + 2) = False from eq_false (by omega), show (4 * i = 4 * T + 1) = False from eq_false (by omega), show (4 * i = 4 * T) = False from eq_false (by omega), show (4 * i + 1 = 4 * T + 3) = False from eq_false (by omega), show (4 * i + 1 = 4 * T + 2) = False from eq_false (by omega), show (4 * i + 1 = 4 * T + 1) = False from eq_false (by omega), show (4 * i + 1 = 4 * T) = False from eq_false (by omega), show (4 * i + 2 = 4 * T + 3) = False from eq_false (by omega), show (4 * i + 2 = 4 * T + 2) = False from eq_false (by omega), show (4 * i + 2 = 4 * T + 1) = False from eq_false (by omega), show (4 * i + 2 = 4 * T) = False from eq_false (by omega), show (4 * i + 3 = 4 * T + 3) = False from eq_false (by omega), show (4 * i + 3 = 4 * T + 2) = False from eq_false (by omega), show (4 * i + 3 = 4 * T + 1) = False from eq_false (by omega), show (4 * i + 3 = 4 * T) = False from eq_false (by omega), show (i = T) = False from eq_false w, if_false]
      exact f3 i (by omega)
