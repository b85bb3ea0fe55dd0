/-! THE PLAIN RULES of an ask -/
theorem li {x y : Int32} : x < y ↔ x.toInt < y.toInt := Int32.lt_iff_toInt_lt
theorem lei {x y : Int32} : x ≤ y ↔ x.toInt ≤ y.toInt := Int32.le_iff_toInt_le
theorem one0 : ((1 : Int32) = 0) = False := eq_false (by decide)
theorem held_eq (v : Int32) : (if 0 < (if v < 100 then v else 100) then (if v < 100 then v else 100) else 0) = rs_X8_held v 100 ∧ ∃ q, q ≤ 100 ∧ rs_X8_held v 100 = nI q := by
  unfold rs_X8_held
  have h0 : (0 : Int32).toInt = 0 := by decide
  have h1 : (100 : Int32).toInt = 100 := by decide
  by_cases a : 0 ≤ v
  · rw [if_pos a]
    by_cases b : v ≤ 100
    · rw [if_pos b]
      obtain ⟨q, hq, e⟩ := nI_of2 (x := v) (M := 100) (n := 100) h1 (by rw [li]; rw [lei] at a; omega) b
      refine ⟨?_, q, hq, e⟩
      by_cases d : v < 100
      · rw [if_pos d]
        by_cases z : 0 < v
        · rw [if_pos z]
        · rw [if_neg z]
          apply Int32.toInt_inj.mp
          rw [li] at z
          rw [lei] at a
          omega
      · rw [if_neg d, if_pos (by decide)]
        apply Int32.toInt_inj.mp
        rw [li] at d
        rw [lei] at b
        omega
    · rw [if_neg b]
      refine ⟨?_, 100, by omega, rfl⟩
      have d : ¬ v < 100 := by rw [li]; rw [lei] at b; omega
      rw [if_neg d, if_pos (by decide)]
  · rw [if_neg a]
    refine ⟨?_, 0, by omega, rfl⟩
    have d : v < 100 := by rw [li]; rw [lei] at a; omega
    rw [if_pos d, if_neg (by rw [li]; rw [lei] at a; omega)]
theorem held_ok {x y : Int32} : ok_X8_held x y := by
  unfold ok_X8_held
  split
  · split <;> trivial
  · trivial
/-- the reference's path by points, then what follows -/
def mTail (M : St) (o p : Int32) : Int32 × St := if 20 ≤ p then (if 50 ≤ p then (if 80 ≤ p then rs_X8_ask_197 M o p 3 else rs_X8_ask_197 M o p 2) else rs_X8_ask_197 M o p 1) else rs_X8_ask_197 M o p 0
def mTailO (M : St) (o p : Int32) : Prop := if 20 ≤ p then (if 50 ≤ p then (if 80 ≤ p then ok_X8_ask_197 M o p 3 else ok_X8_ask_197 M o p 2) else ok_X8_ask_197 M o p 1) else ok_X8_ask_197 M o p 0
theorem pl_loop {R c : Nat} : ∀ (k : Nat) (C M : St) (r p T f g : Nat) (o : Int32), r + k = R → k + 1 ≤ f → k + 1 ≤ g → AG C M R c T → T + k ≤ 100000 → StOK C → (∀ j, j < 4 → 0 < cnt (C.2 4) (nI j) R → ¬ C.2 13 j = 0) → p ≤ 100 * r →
    ∃ C1 M1 T1 q, rs_X7_runPlainRules_4 f C (nI c) (nI p) (nI r) = (nI q, C1) ∧ rs_X8_ask_82 g M o (nI p) (nI r) = mTail M1 o (nI q) ∧ AG C1 M1 R c T1 ∧ T1 ≤ T + k ∧ Fx C C1 c ∧ Fx M M1 c ∧ q ≤ 1000 ∧ ok_X7_runPlainRules_4 f C (nI c) (nI p) (nI r) ∧ (mTailO M1 o (nI q) → ok_X8_ask_82 g M o (nI p) (nI r)) := by
  intro k
  induction k with
  | zero =>
    intro C M r p T f g o hr hf hg hA hT hS hZ hp
    obtain ⟨f, rfl⟩ : ∃ z, f = z + 1 := ⟨f - 1, by omega⟩
    obtain ⟨g, rfl⟩ : ∃ z, g = z + 1 := ⟨g - 1, by omega⟩
    have hR := hA.2.1.2.1
    have c1 := hA.2.1.1
    have m1 : M.1 127 = nI R := (hA.1.i 127).trans c1
    have hh : rs_X8_held (nI p) 1000 = nI (min p 1000) := by
      unfold rs_X8_held
      rw [if_pos (nI_pos' (by omega))]
      by_cases z : p ≤ 1000
      · rw [if_pos (by rw [show (1000 : Int32) = nI 1000 by decide]; exact (n_le (by omega) (by omega)).mpr z), Nat.min_eq_left z]
      · rw [if_neg (by rw [show (1000 : Int32) = nI 1000 by decide]; exact fun w => z ((n_le (by omega) (by omega)).mp w)), Nat.min_eq_right (by omega)]
        decide
    have hc : (if nI p < 1000 then nI p else (1000 : Int32)) = nI (min p 1000) := by
      by_cases z : p < 1000
      · rw [if_pos (by rw [show (1000 : Int32) = nI 1000 by decide]; exact (n_lt (by omega) (by omega)).mpr z), Nat.min_eq_left (by omega)]
      · rw [if_neg (by rw [show (1000 : Int32) = nI 1000 by decide]; exact fun w => z ((n_lt (by omega) (by omega)).mp w)), Nat.min_eq_right (by omega)]
        decide
    rw [rs_X7_runPlainRules_4, ok_X7_runPlainRules_4, c1, if_pos (rn_ge (by omega) (by omega)), if_pos (rn_ge (by omega) (by omega)), rs_X8_ask_82, ok_X8_ask_82, m1, if_pos (rn_ge (by omega) (by omega)), if_pos (rn_ge (by omega) (by omega)), hh, hc]
    exact ⟨C, M, T, min p 1000, rfl, rfl, hA, by omega, Fx.rf, Fx.rf, Nat.min_le_right _ _, trivial, fun z => ⟨held_ok, z⟩⟩
  | succ k ih =>
    intro C M r p T f g o hr hf hg hA hT hS hZ hp
    obtain ⟨f, rfl⟩ : ∃ z, f = z + 1 := ⟨f - 1, by omega⟩
    obtain ⟨g, rfl⟩ : ∃ z, g = z + 1 := ⟨g - 1, by omega⟩
    obtain ⟨sh, inv, mc, hc, fr⟩ := id hA
    have hR := inv.2.1
    have c1 := inv.1
    have m1 : M.1 127 = nI R := (sh.i 127).trans c1
    have r8 : (nI r).toNatClampNeg = r := cl_n (by omega)
    obtain ⟨L, e2, hL, he2, hLn, hen, hops⟩ := inv.2.2.1 r (by omega)
    have e8 : (nI e2).toNatClampNeg = e2 := cl_n (by omega)
    have p0 : nI p + 0 = nI p := nI_add p 0
    rw [rs_X7_runPlainRules_4, ok_X7_runPlainRules_4, c1, if_neg (rn_lt hR (by omega)), if_neg (rn_lt hR (by omega)), rs_X8_ask_82, ok_X8_ask_82, m1, if_neg (rn_lt hR (by omega)), if_neg (rn_lt hR (by omega)), r8, sh.a 5, sh.a 4, sh.a 13, hen, e8]
    unfold rs_X7_runPlainRules_43 ok_X7_runPlainRules_43 rs_X7_runPlainRules_52 ok_X7_runPlainRules_52 rs_X7_runPlainRules_76 ok_X7_runPlainRules_76
    unfold rs_X8_ask_118 ok_X8_ask_118 rs_X8_ask_119 ok_X8_ask_119 rs_X8_ask_132 ok_X8_ask_132 rs_X8_ask_149 ok_X8_ask_149 rs_X8_ask_150 ok_X8_ask_150
    rw [show nI r + 1 = nI (r + 1) from nI_1 r, p0, r8]
    have skip : ∃ C1 M1 T1 q, rs_X7_runPlainRules_4 f C (nI c) (nI p) (nI (r + 1)) = (nI q, C1) ∧ rs_X8_ask_82 g M o (nI p) (nI (r + 1)) = mTail M1 o (nI q) ∧ AG C1 M1 R c T1 ∧ T1 ≤ T + (k + 1) ∧ Fx C C1 c ∧ Fx M M1 c ∧ q ≤ 1000 ∧ ok_X7_runPlainRules_4 f C (nI c) (nI p) (nI (r + 1)) ∧ (mTailO M1 o (nI q) → ok_X8_ask_82 g M o (nI p) (nI (r + 1))) := by
      obtain ⟨C1, M1, T1, q, x1, x2, x3, x4, x5⟩ := ih C M (r + 1) p T f g o (by omega) (by omega) (by omega) hA (by omega) hS hZ (by omega)
      exact ⟨C1, M1, T1, q, x1, x2, x3, by omega, x5⟩
    by_cases w : C.2 5 r = 0
    · rw [if_pos w, if_pos w, if_pos w, if_pos w]
      have nz : ¬ C.2 13 e2 = 0 := hZ e2 he2 (cnt_pos (r := r) (by omega) hen)
      have hbo : ok_X2_isBarred C (nI e2) := by
        unfold ok_X2_isBarred
        refine ⟨vp_in_nI he2 (by omega), ?_⟩
        split <;> trivial
      rcases hS e2 he2 with z | z | z
      · exact absurd z nz
      · -- it runs
        have hb : rs_X2_isBarred C (nI e2) = (0, C) := by
          unfold rs_X2_isBarred
          rw [e8, z, if_neg (by decide)]
        rw [hb, if_pos z, if_pos z]
        simp only [one0, eq_self, if_true, if_false]
        obtain ⟨lim, hl, hlim⟩ := inv.2.2.2
        obtain ⟨b, C1, M1, T1, y1, y2, y3, y4, y5, y6, y7, y8, y9, y10⟩ := rule_sim (r := r) sh (by omega) ⟨L, e2, hL, he2, hLn, hen, hops⟩ hlim hl hc mc fr (by omega)
        rw [y1, y2]
        dsimp only
        have nA : AG C1 M1 R c T1 := ⟨y4, inv.y y7.y, (y8.1 686 (by decide)).trans mc, hc, y5⟩
        have nS : StOK C1 := fun j hj => by rw [y7.2.1 13 (by decide)]; exact hS j hj
        have nZ : ∀ j, j < 4 → 0 < cnt (C1.2 4) (nI j) R → ¬ C1.2 13 j = 0 := fun j hj h' => by
          rw [y7.2.1 4 (by decide)] at h'
          rw [y7.2.1 13 (by decide)]
          exact hZ j hj h'
        rcases y3 with rfl | rfl
        · simp only [eq_self, if_true]
          obtain ⟨C2, M2, T2, q, x1, x2, x3, x4, x5, x6, x7, x8, x9⟩ := ih C1 M1 (r + 1) p T1 f g o (by omega) (by omega) (by omega) nA (by omega) nS nZ (by omega)
          exact ⟨C2, M2, T2, q, x1, x2, x3, by omega, y7.tr x5, y8.tr x6, x7, ⟨vp_in_nI (by omega) (by omega), vp_in_nI (by omega) (by omega), hbo, y9, x8⟩, fun h' => ⟨vp_in_nI (by omega) (by omega), vp_in_nI (by omega) (by omega), vp_in_nI he2 (by omega), y10, x9 h'⟩⟩
        · simp only [one0, if_false]
          obtain ⟨he, qq, hq, hqe⟩ := held_eq (C1.2 7 r)
          rw [y4.a 7, he, hqe, nI_add]
          obtain ⟨C2, M2, T2, q, x1, x2, x3, x4, x5, x6, x7, x8, x9⟩ := ih C1 M1 (r + 1) (p + qq) T1 f g o (by omega) (by omega) (by omega) nA (by omega) nS nZ (by omega)
          exact ⟨C2, M2, T2, q, x1, x2, x3, by omega, y7.tr x5, y8.tr x6, x7, ⟨vp_in_nI (by omega) (by omega), vp_in_nI (by omega) (by omega), hbo, y9, vp_in_nI (by omega) (by omega), x8⟩, fun h' => ⟨vp_in_nI (by omega) (by omega), vp_in_nI (by omega) (by omega), vp_in_nI he2 (by omega), y10, vp_in_nI (by omega) (by omega), held_ok, x9 h'⟩⟩
      · -- barred
        have hb : rs_X2_isBarred C (nI e2) = (1, C) := by
          unfold rs_X2_isBarred
          rw [e8, z, if_pos rfl]
        have n1 : ¬ C.2 13 e2 = 1 := by rw [z]; decide
        rw [hb, if_neg n1, if_neg n1]
        simp only [one0, eq_self, if_true, if_false]
        obtain ⟨C1, M1, T1, q, x1, x2, x3, x4, x5, x6, x7, x8, x9⟩ := skip
        exact ⟨C1, M1, T1, q, x1, x2, x3, x4, x5, x6, x7, ⟨vp_in_nI (by omega) (by omega), vp_in_nI (by omega) (by omega), hbo, x8⟩, fun h' => ⟨vp_in_nI (by omega) (by omega), vp_in_nI (by omega) (by omega), vp_in_nI he2 (by omega), x9 h'⟩⟩
    · rw [if_neg w, if_neg w, if_neg w, if_neg w, if_pos rfl, if_pos rfl]
      obtain ⟨C1, M1, T1, q, x1, x2, x3, x4, x5, x6, x7, x8, x9⟩ := skip
      exact ⟨C1, M1, T1, q, x1, x2, x3, x4, x5, x6, x7, ⟨vp_in_nI (by omega) (by omega), x8⟩, fun h' => ⟨vp_in_nI (by omega) (by omega), x9 h'⟩⟩
