/-! THE EDITIONS of an ask -/
def cnt (f : Nat → Int32) (e : Int32) : Nat → Nat
  | 0 => 0
  | n + 1 => cnt f e n + (if f n = e then 1 else 0)
theorem cnt_le (f : Nat → Int32) (e : Int32) : ∀ n, cnt f e n ≤ n := by
  intro n
  induction n with
  | zero => exact Nat.le_refl _
  | succ n ih =>
    rw [cnt]
    split <;> omega
theorem cnt_pos {f : Nat → Int32} {e : Int32} {n r : Nat} (hr : r < n) (h : f r = e) : 0 < cnt f e n := by
  induction n with
  | zero => omega
  | succ n ih =>
    rw [cnt]
    by_cases q : r = n
    · subst q
      rw [if_pos h]
      omega
    · have := ih (by omega)
      omega
theorem rulesOf_loop {e : Int32} {R : Nat} (hR : R ≤ 12) : ∀ (k : Nat) (M : St) (r g : Nat), r + k = R → k + 1 ≤ g → M.1 127 = nI R → rs_X8_rulesOf_4 g M e (nI (cnt (M.2 4) e r)) (nI r) = (nI (cnt (M.2 4) e R), M) ∧ ok_X8_rulesOf_4 g M e (nI (cnt (M.2 4) e r)) (nI r) := by
  intro k
  induction k with
  | zero =>
    intro M r g hr hg h1
    obtain ⟨g, rfl⟩ : ∃ z, g = z + 1 := ⟨g - 1, by omega⟩
    rw [rs_X8_rulesOf_4, ok_X8_rulesOf_4, h1, if_pos (rn_ge (by omega) (by omega)), if_pos (rn_ge (by omega) (by omega)), show r = R by omega]
    exact ⟨rfl, trivial⟩
  | succ k ih =>
    intro M r g hr hg h1
    obtain ⟨g, rfl⟩ : ∃ z, g = z + 1 := ⟨g - 1, by omega⟩
    obtain ⟨i1, i2⟩ := ih M (r + 1) g (by omega) (by omega) h1
    rw [rs_X8_rulesOf_4, ok_X8_rulesOf_4, h1, if_neg (rn_lt hR (by omega)), if_neg (rn_lt hR (by omega)), cl_n (by omega)]
    unfold rs_X8_rulesOf_28 ok_X8_rulesOf_28
    rw [cnt] at i1 i2
    rw [show nI r + 1 = nI (r + 1) from nI_1 r]
    by_cases q : M.2 4 r = e
    · rw [if_pos q] at i1 i2
      rw [if_pos q, if_pos q, a1]
      exact ⟨i1, vp_in_nI (by omega) (by omega), i2⟩
    · rw [if_neg q] at i1 i2
      rw [if_neg q, if_neg q, show nI (cnt (M.2 4) e r) + 0 = nI (cnt (M.2 4) e r + 0) from nI_add _ 0]
      exact ⟨i1, vp_in_nI (by omega) (by omega), i2⟩
theorem rulesOf_ok {e : Int32} {M : St} {R : Nat} (hR : R ≤ 12) (h1 : M.1 127 = nI R) : rs_X8_rulesOf M e = (nI (cnt (M.2 4) e R), M) ∧ ok_X8_rulesOf M e := rulesOf_loop hR R M 0 100 (by omega) (by omega) h1
def StOK (C : St) : Prop := ∀ j, j < 4 → C.2 13 j = 0 ∨ C.2 13 j = 1 ∨ C.2 13 j = 2
def CntOK (C : St) (R : Nat) : Prop := ∀ j, j < 4 → C.2 14 j = nI (cnt (C.2 4) (nI j) R)
theorem n_le0 {n : Nat} (h : n < 2 ^ 31) : nI n ≤ 0 ↔ n = 0 := by
  rw [show (0 : Int32) = nI 0 from rfl, n_le h (by omega)]
  omega
/-- one edition: it starts on both sides, if it is due -/
theorem due_sim {C M : St} {e R c T : Nat} (he : e < 4) (hA : AG C M R c T) (hT : T + 12 ≤ 100000) (hS : StOK C) (hN : CntOK C R) :
    ∃ C1 M1 T1, rs_X7_startIfDue C (nI e) (nI c) = C1 ∧ (∀ (g : Nat) (o : Int32), (if (M.2 13) (nI e).toNatClampNeg = 0 then rs_X8_ask_64 (rs_X8_ask_45 g) (rs_X8_rulesOf M (nI e)).2 o (nI e) (rs_X8_rulesOf M (nI e)).1 else rs_X8_ask_72 (rs_X8_ask_45 g) M o (nI e)) = rs_X8_ask_45 g M1 o (nI (e + 1))) ∧
      AG C1 M1 R c T1 ∧ T1 ≤ T + 12 ∧ Fy C C1 c ∧ Fy M M1 c ∧ StOK C1 ∧ (∀ j, j ≠ e → C1.2 13 j = C.2 13 j) ∧ (0 < cnt (C.2 4) (nI e) R → ¬ C1.2 13 e = 0) ∧ ok_X7_startIfDue C (nI e) (nI c) ∧
      (∀ (g : Nat) (o : Int32), ok_X8_ask_45 g M1 o (nI (e + 1)) → (if (M.2 13) (nI e).toNatClampNeg = 0 then (ok_X8_rulesOf M (nI e) ∧ ok_X8_ask_64 (ok_X8_ask_45 g) (rs_X8_rulesOf M (nI e)).2 o (nI e) (rs_X8_rulesOf M (nI e)).1) else ok_X8_ask_72 (ok_X8_ask_45 g) M o (nI e))) := by
  obtain ⟨sh, inv, mc, hc, fr⟩ := id hA
  have hR := inv.2.1
  have m1 : M.1 127 = nI R := (sh.i 127).trans inv.1
  have e8 : (nI e).toNatClampNeg = e := cl_n (by omega)
  obtain ⟨ro1, ro2⟩ := rulesOf_ok (e := nI e) hR m1
  have hcl := cnt_le (C.2 4) (nI e) R
  rw [e8, ro1, sh.a 13, sh.a 4]
  unfold rs_X8_ask_64 ok_X8_ask_64 rs_X8_ask_72 ok_X8_ask_72
  dsimp only
  rw [a1]
  unfold rs_X7_startIfDue ok_X7_startIfDue
  -- is it due?
  have hh : rs_X2_hasStarted C (nI e) = (if C.2 13 e = 0 then (0, C) else (1, C)) := by
    unfold rs_X2_hasStarted
    rw [e8]
  have hho : ok_X2_hasStarted C (nI e) := by
    unfold ok_X2_hasStarted
    refine ⟨vp_in_nI he (by omega), ?_⟩
    split <;> trivial
  by_cases q : C.2 13 e = 0
  · rw [if_pos q] at hh
    have hd : rs_X2_isDue C (nI e) = (if cnt (C.2 4) (nI e) R = 0 then (0, C) else (1, C)) := by
      unfold rs_X2_isDue rs_X2_isDue_5 rs_X2_isDue_21
      rw [hh, if_pos rfl, e8, hN e he]
      by_cases w : cnt (C.2 4) (nI e) R = 0
      · rw [if_pos ((n_le0 (by omega)).mpr w), if_pos w]
      · rw [if_neg (fun z => w ((n_le0 (by omega)).mp z)), if_neg w]
    have hdo : ok_X2_isDue C (nI e) := by
      unfold ok_X2_isDue ok_X2_isDue_5 ok_X2_isDue_21
      rw [hh, if_pos rfl]
      refine ⟨hho, vp_in_nI he (by omega), ?_⟩
      split <;> trivial
    simp only [if_pos q]
    by_cases w : cnt (C.2 4) (nI e) R = 0
    · rw [if_pos w] at hd
      rw [hd]
      unfold rs_X7_startIfDue_8 ok_X7_startIfDue_8
      dsimp only
      rw [if_pos rfl, if_pos rfl]
      simp only [if_pos ((n_le0 (show cnt (C.2 4) (nI e) R < 2 ^ 31 by omega)).mpr w)]
      exact ⟨C, M, T, rfl, fun _ _ => rfl, hA, by omega, Fy.rf, Fy.rf, hS, fun _ _ => rfl, fun z => absurd w (by omega), ⟨hdo, trivial⟩, fun g o z => ⟨ro2, z⟩⟩
    · rw [if_neg w] at hd
      rw [hd]
      unfold rs_X7_startIfDue_8 ok_X7_startIfDue_8
      dsimp only
      rw [if_neg (by decide), if_neg (by decide), e8]
      have wn : ¬ nI (cnt (C.2 4) (nI e) R) ≤ 0 := fun z => w ((n_le0 (by omega)).mp z)
      simp only [if_neg wn]
      unfold rs_X8_starts ok_X8_starts
      rw [e8]
      have nA : AG (sA C 13 e 1) (sA M 13 e 1) R c T := ⟨sh.wA _ _ _, inv.y (Fy.rf.w13 (c := c) _ _), mc, hc, fr.y13⟩
      obtain ⟨C1, M1, T1, x1, x2, x3, x4, x5, x6, x7, x8, x9, x10⟩ := start_loop he R (sA C 13 e 1) (sA M 13 e 1) 0 T 100 100 (by omega) (by omega) (by omega) nA (by omega) (Or.inl (by rw [sA_2, if_pos rfl, upd_at, if_pos rfl]))
      refine ⟨C1, M1, T1, x1, fun _ _ => by rw [← x2]; rfl, x3, by omega, (Fy.rf.w13 _ _).tr x5, (Fy.rf.w13 _ _).tr x6, fun j hj => ?_, fun j hj => ?_, fun _ z => ?_, ⟨hdo, vp_in_nI he (by omega), x9⟩, fun g o z => ⟨ro2, ⟨vp_in_nI he (by omega), x10⟩, by rw [← x2] at z; exact z⟩⟩
      · by_cases je : j = e
        · subst je
          rcases x7 with y | y
          · exact Or.inr (Or.inl y)
          · exact Or.inr (Or.inr y)
        · rw [x8 j je, sA_2, if_pos rfl, upd_at, if_neg je]
          exact hS j hj
      · rw [x8 j hj, sA_2, if_pos rfl, upd_at, if_neg hj]
      · rcases x7 with y | y <;> rw [y] at z <;> exact absurd z (by decide)
  · rw [if_neg q] at hh
    have hd : rs_X2_isDue C (nI e) = (0, C) := by
      unfold rs_X2_isDue rs_X2_isDue_5 rs_X2_isDue_21
      rw [hh]
      dsimp only
      rw [if_neg (by decide)]
    have hdo : ok_X2_isDue C (nI e) := by
      unfold ok_X2_isDue ok_X2_isDue_5 ok_X2_isDue_21
      rw [hh]
      dsimp only
      rw [if_neg (by decide)]
      exact ⟨hho, trivial⟩
    simp only [if_neg q]
    rw [hd]
    unfold rs_X7_startIfDue_8 ok_X7_startIfDue_8
    dsimp only
    rw [if_pos rfl, if_pos rfl]
    exact ⟨C, M, T, rfl, fun _ _ => rfl, hA, by omega, Fy.rf, Fy.rf, hS, fun _ _ => rfl, fun _ => q, ⟨hdo, trivial⟩, fun g o z => z⟩
theorem e_lt {e : Nat} (h : e < 4) : ¬ (4 : Int32) ≤ nI e := fun z => absurd ((n_le (a := 4) (by omega) (by omega)).mp z) (by omega)
/-- all editions -/
theorem ed_loop {R c : Nat} : ∀ (k : Nat) (C M : St) (e T f g : Nat) (o : Int32), e + k = 4 → k + 1 ≤ f → k + 1 ≤ g → AG C M R c T → T + 12 * k ≤ 100000 → StOK C → CntOK C R →
    ∃ C1 M1 T1, rs_X7_ask_51 f C (nI c) (nI e) = rs_X7_ask_73 (rs_X7_runPlainRules C1 (nI c)).2 (nI c) (rs_X7_runPlainRules C1 (nI c)).1 ∧ rs_X8_ask_45 g M o (nI e) = rs_X8_ask_82 100 M1 o 0 0 ∧ AG C1 M1 R c T1 ∧ T1 ≤ T + 12 * k ∧ Fy C C1 c ∧ Fy M M1 c ∧ StOK C1 ∧ (∀ j, j < e → C1.2 13 j = C.2 13 j) ∧ (∀ j, e ≤ j → j < 4 → 0 < cnt (C.2 4) (nI j) R → ¬ C1.2 13 j = 0) ∧
      ((ok_X7_runPlainRules C1 (nI c) ∧ ok_X7_ask_73 (rs_X7_runPlainRules C1 (nI c)).2 (nI c) (rs_X7_runPlainRules C1 (nI c)).1) → ok_X7_ask_51 f C (nI c) (nI e)) ∧ (ok_X8_ask_82 100 M1 o 0 0 → ok_X8_ask_45 g M o (nI e)) := by
  intro k
  induction k with
  | zero =>
    intro C M e T f g o he hf hg hA hT hS hN
    obtain ⟨f, rfl⟩ : ∃ z, f = z + 1 := ⟨f - 1, by omega⟩
    obtain ⟨g, rfl⟩ : ∃ z, g = z + 1 := ⟨g - 1, by omega⟩
    have e4 : e = 4 := by omega
    subst e4
    rw [rs_X7_ask_51, ok_X7_ask_51, rs_X8_ask_45, ok_X8_ask_45, if_pos (by decide), if_pos (by decide), if_pos (by decide), if_pos (by decide)]
    exact ⟨C, M, T, rfl, rfl, hA, by omega, Fy.rf, Fy.rf, hS, fun _ _ => rfl, fun j h1 h2 => by omega, fun z => z, fun z => z⟩
  | succ k ih =>
    intro C M e T f g o he hf hg hA hT hS hN
    obtain ⟨f, rfl⟩ : ∃ z, f = z + 1 := ⟨f - 1, by omega⟩
    obtain ⟨g, rfl⟩ : ∃ z, g = z + 1 := ⟨g - 1, by omega⟩
    have hn := e_lt (e := e) (by omega)
    obtain ⟨C1, M1, T1, y1, y2, y3, y4, y5, y6, y7, y8, y9, y10, y11⟩ := due_sim (e := e) (by omega) hA (by omega) hS hN
    have hN1 : CntOK C1 R := fun j hj => by rw [y5.2.1 14 (by decide), y5.2.1 4 (by decide)]; exact hN j hj
    obtain ⟨C2, M2, T2, x1, x2, x3, x4, x5, x6, x7, x8, x9, x10, x11⟩ := ih C1 M1 (e + 1) T1 f g o (by omega) (by omega) (by omega) y3 (by omega) y7 hN1
    rw [rs_X7_ask_51, ok_X7_ask_51, rs_X8_ask_45, ok_X8_ask_45, if_neg hn, if_neg hn, if_neg hn, if_neg hn, y1, y2 g o]
    unfold rs_X7_ask_62 ok_X7_ask_62
    rw [a1]
    refine ⟨C2, M2, T2, x1, x2, x3, by omega, y5.tr x5, y6.tr x6, x7, fun j hj => ?_, fun j h1 h2 h3 => ?_, fun z => ⟨y10, x10 z⟩, fun z => ⟨vp_in_nI (by omega) (by omega), y11 g o (x11 z)⟩⟩
    · rw [x8 j (by omega), y8 j (by omega)]
    · by_cases je : j = e
      · subst je
        rw [x8 j (by omega)]
        exact y9 h3
      · exact x9 j (by omega) h2 (by rw [y5.2.1 4 (by decide)]; exact h3)
