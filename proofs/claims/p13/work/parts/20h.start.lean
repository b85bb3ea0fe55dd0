/-! AN EDITION STARTS on both sides -/
def Inv (C : St) (R : Nat) : Prop := C.1 127 = nI R ∧ R ≤ 12 ∧ (∀ r, r < R → RuOK C r) ∧ ∃ lim, lim ≤ 65536 ∧ C.1 1040 = nI lim
def fyA (p : Nat) : Bool := fxA p && !(p == 13)
def Fy (C C1 : St) (c : Nat) : Prop := (∀ k, fxI k = true → C1.1 k = C.1 k) ∧ (∀ p, fyA p = true → C1.2 p = C.2 p) ∧ ∀ j, j ≠ c → C1.2 23 j = C.2 23 j
theorem Fy.rf {C : St} {c : Nat} : Fy C C c := ⟨fun _ _ => rfl, fun _ _ => rfl, fun _ _ => rfl⟩
theorem Fy.tr {C C1 C2 : St} {c : Nat} (h : Fy C C1 c) (h2 : Fy C1 C2 c) : Fy C C2 c := ⟨fun k a => (h2.1 k a).trans (h.1 k a), fun p a => (h2.2.1 p a).trans (h.2.1 p a), fun j a => (h2.2.2 j a).trans (h.2.2 j a)⟩
theorem Fx.y {C C1 : St} {c : Nat} (h : Fx C C1 c) : Fy C C1 c := ⟨h.1, fun p a => h.2.1 p (by unfold fyA at a; rw [Bool.and_eq_true] at a; exact a.1), h.2.2⟩
theorem Fy.w13 {C C1 : St} {c : Nat} (h : Fy C C1 c) (j : Nat) (v : Int32) : Fy C (sA C1 13 j v) c := ⟨h.1, fun q a => by rw [sA_2, if_neg (fun e => by rw [e] at a; cases a)]; exact h.2.1 q a, fun i a => by rw [sA_2, if_neg (by decide)]; exact h.2.2 i a⟩
theorem Inv.y {C C1 : St} {R c : Nat} (h : Inv C R) (f : Fy C C1 c) : Inv C1 R := by
  obtain ⟨a, b, d, lim, e, g⟩ := h
  refine ⟨(f.1 127 (by decide)).trans a, b, fun r hr => ?_, lim, e, (f.1 1040 (by decide)).trans g⟩
  obtain ⟨L, e, hL, he, h1, h2, h3⟩ := d r hr
  refine ⟨L, e, hL, he, by rw [f.2.1 6 (by decide)]; exact h1, by rw [f.2.1 4 (by decide)]; exact h2, fun t ht => ?_⟩
  rw [f.2.1 9 (by decide), f.2.1 10 (by decide)]
  exact h3 t ht
/-- what holds all through an ask -/
def AG (C M : St) (R c T : Nat) : Prop := Sh C M ∧ Inv C R ∧ M.1 686 = nI c ∧ c < 40 ∧ FRel C M T
theorem FRel.y13 {C M : St} {T j : Nat} {v w : Int32} (h : FRel C M T) : FRel (sA C 13 j v) (sA M 13 j w) T := ⟨h.1, h.2.1, h.2.2⟩
theorem sA_same {S : St} {p j : Nat} {v : Int32} (h : S.2 p j = v) : sA S p j v = S := by
  rw [← h]
  exact sA_id S p j
theorem rn_lt {R r : Nat} (hR : R ≤ 12) (h : r < R) : ¬ nI R ≤ nI r := fun z => absurd ((n_le (by omega) (by omega)).mp z) (by omega)
theorem rn_ge {R r : Nat} (hr : r ≤ 12) (h : R ≤ r) : nI R ≤ nI r := (n_le (by omega) (by omega)).mpr h
theorem e_eq {a b : Nat} (ha : a < 4) (hb : b < 4) : nI a = nI b ↔ a = b := n_eq (by omega) (by omega)
/-- the reference goes on over a barred edition, and does nothing -/
theorem starts_skip {e R : Nat} (he : e < 4) (hR : R ≤ 12) : ∀ (k : Nat) (M : St) (r g : Nat), r + k = R → k + 1 ≤ g → M.1 127 = nI R → M.2 13 e = 2 → rs_X8_starts_9 g M (nI e) (nI r) = M ∧ ok_X8_starts_9 g M (nI e) (nI r) := by
  intro k
  induction k with
  | zero =>
    intro M r g hr hg h1 h2
    obtain ⟨g, rfl⟩ : ∃ z, g = z + 1 := ⟨g - 1, by omega⟩
    rw [rs_X8_starts_9, ok_X8_starts_9, h1, if_pos (rn_ge (by omega) (by omega)), if_pos (rn_ge (by omega) (by omega))]
    exact ⟨rfl, trivial⟩
  | succ k ih =>
    intro M r g hr hg h1 h2
    obtain ⟨g, rfl⟩ : ∃ z, g = z + 1 := ⟨g - 1, by omega⟩
    obtain ⟨i1, i2⟩ := ih M (r + 1) g (by omega) (by omega) h1 h2
    have n1 : ¬ M.2 13 e = 1 := by rw [h2]; decide
    rw [rs_X8_starts_9, ok_X8_starts_9, h1, if_neg (rn_lt hR (by omega)), if_neg (rn_lt hR (by omega)), cl_n (show e < 2 ^ 31 by omega), if_neg n1, if_neg n1]
    unfold rs_X8_starts_65 ok_X8_starts_65
    rw [a1]
    refine ⟨?_, vp_in_nI (by omega) (by omega), ?_⟩
    · split
      · split <;> exact i1
      · exact i1
    · split
      · refine ⟨vp_in_nI (by omega) (by omega), ?_⟩
        split
        · exact i2
        · exact ⟨vp_in_nI he (by omega), i2⟩
      · exact i2
theorem start_loop {e R c : Nat} (he : e < 4) : ∀ (k : Nat) (C M : St) (r T f g : Nat), r + k = R → k + 1 ≤ f → k + 1 ≤ g → AG C M R c T → T + k ≤ 100000 → (C.2 13 e = 1 ∨ C.2 13 e = 2) →
    ∃ C1 M1 T1, rs_X7_startIfDue_24 f C (nI e) (nI c) (nI r) = C1 ∧ rs_X8_starts_9 g M (nI e) (nI r) = M1 ∧ AG C1 M1 R c T1 ∧ T1 ≤ T + k ∧ Fy C C1 c ∧ Fy M M1 c ∧ (C1.2 13 e = 1 ∨ C1.2 13 e = 2) ∧ (∀ j, j ≠ e → C1.2 13 j = C.2 13 j) ∧ ok_X7_startIfDue_24 f C (nI e) (nI c) (nI r) ∧ ok_X8_starts_9 g M (nI e) (nI r) := by
  intro k
  induction k with
  | zero =>
    intro C M r T f g hr hf hg hA hT h13
    obtain ⟨f, rfl⟩ : ∃ z, f = z + 1 := ⟨f - 1, by omega⟩
    obtain ⟨g, rfl⟩ : ∃ z, g = z + 1 := ⟨g - 1, by omega⟩
    have hR := hA.2.1.2.1
    have c1 := hA.2.1.1
    have m1 : M.1 127 = nI R := (hA.1.i 127).trans c1
    rw [rs_X7_startIfDue_24, ok_X7_startIfDue_24, c1, if_pos (rn_ge (by omega) (by omega)), if_pos (rn_ge (by omega) (by omega)), rs_X8_starts_9, ok_X8_starts_9, m1, if_pos (rn_ge (by omega) (by omega)), if_pos (rn_ge (by omega) (by omega))]
    exact ⟨C, M, T, rfl, rfl, hA, by omega, Fy.rf, Fy.rf, h13, fun _ _ => rfl, trivial, trivial⟩
  | succ k ih =>
    intro C M r T f g hr hf hg hA hT h13
    obtain ⟨f, rfl⟩ : ∃ z, f = z + 1 := ⟨f - 1, by omega⟩
    obtain ⟨sh, inv, mc, hc, fr⟩ := id hA
    have hR := inv.2.1
    have c1 := inv.1
    have m1 : M.1 127 = nI R := (sh.i 127).trans c1
    have e8 : (nI e).toNatClampNeg = e := cl_n (by omega)
    have r8 : (nI r).toNatClampNeg = r := cl_n (by omega)
    rcases h13 with h1 | h2
    · -- not barred so far
      obtain ⟨g, rfl⟩ : ∃ z, g = z + 1 := ⟨g - 1, by omega⟩
      have hb : rs_X2_isBarred C (nI e) = (0, C) := by
        unfold rs_X2_isBarred
        rw [e8, h1, if_neg (by decide)]
      have hbo : ok_X2_isBarred C (nI e) := by
        unfold ok_X2_isBarred
        rw [e8, h1, if_neg (by decide)]
        exact ⟨vp_in_nI he (by omega), trivial⟩
      have hm : M.2 13 e = 1 := by rw [sh.a 13]; exact h1
      obtain ⟨L, e2, hL, he2, hLn, hen, hops⟩ := inv.2.2.1 r (by omega)
      rw [rs_X7_startIfDue_24, ok_X7_startIfDue_24, c1, if_neg (rn_lt hR (by omega)), if_neg (rn_lt hR (by omega)), hb]
      rw [rs_X8_starts_9, ok_X8_starts_9, m1, if_neg (rn_lt hR (by omega)), if_neg (rn_lt hR (by omega))]
      unfold rs_X7_startIfDue_43 ok_X7_startIfDue_43
      dsimp only
      rw [if_pos rfl, if_pos rfl, r8, e8, sh.a 4, sh.a 5, hen, hm, if_pos rfl, if_pos rfl]
      unfold rs_X7_startIfDue_90 ok_X7_startIfDue_90 rs_X8_starts_65 ok_X8_starts_65
      rw [a1]
      have skip : ∃ C1 M1 T1, rs_X7_startIfDue_24 f C (nI e) (nI c) (nI (r + 1)) = C1 ∧ rs_X8_starts_9 g M (nI e) (nI (r + 1)) = M1 ∧ AG C1 M1 R c T1 ∧ T1 ≤ T + (k + 1) ∧ Fy C C1 c ∧ Fy M M1 c ∧ (C1.2 13 e = 1 ∨ C1.2 13 e = 2) ∧ (∀ j, j ≠ e → C1.2 13 j = C.2 13 j) ∧ ok_X7_startIfDue_24 f C (nI e) (nI c) (nI (r + 1)) ∧ ok_X8_starts_9 g M (nI e) (nI (r + 1)) := by
        obtain ⟨C1, M1, T1, x1, x2, x3, x4, x5⟩ := ih C M (r + 1) T f g (by omega) (by omega) (by omega) hA (by omega) (Or.inl h1)
        exact ⟨C1, M1, T1, x1, x2, x3, by omega, x5⟩
      by_cases q : e2 = e
      · subst q
        rw [if_pos rfl, if_pos rfl, if_pos rfl, if_pos rfl]
        by_cases w : C.2 5 r = 0
        · rw [if_pos w, if_pos w, if_pos w, if_pos w]
          obtain ⟨C1, M1, T1, x1, x2, x3, x4, x5, x6, x7, x8, x9, x10⟩ := skip
          exact ⟨C1, M1, T1, x1, x2, x3, x4, x5, x6, x7, x8, ⟨hbo, vp_in_nI (by omega) (by omega), vp_in_nI (by omega) (by omega), x9⟩, vp_in_nI (by omega) (by omega), vp_in_nI (by omega) (by omega), x10⟩
        · rw [if_neg w, if_neg w, if_neg w, if_neg w]
          obtain ⟨lim, hl, hlim⟩ := inv.2.2.2
          obtain ⟨b, C1, M1, T1, y1, y2, y3, y4, y5, y6, y7, y8, y9, y10⟩ := rule_sim (r := r) sh (by omega) ⟨L, e2, hL, he2, hLn, hen, hops⟩ hlim hl hc mc fr (by omega)
          rw [y1, y2]
          unfold rs_X7_startIfDue_77 ok_X7_startIfDue_77 rs_X8_starts_56 ok_X8_starts_56 rs_X8_starts_64 ok_X8_starts_64
          unfold rs_X7_startIfDue_90 ok_X7_startIfDue_90 rs_X8_starts_65 ok_X8_starts_65
          dsimp only
          rw [e8, a1]
          have k13 : C1.2 13 = C.2 13 := y7.2.1 13 (by decide)
          have km13 : M1.2 13 = M.2 13 := y8.2.1 13 (by decide)
          rcases y3 with rfl | rfl
          · -- it failed: barred
            rw [if_pos rfl, if_pos rfl, if_pos rfl, if_pos rfl]
            have nA : AG (sA C1 13 e2 2) (sA M1 13 e2 2) R c T1 := ⟨y4.wA _ _ _, inv.y (y7.y.w13 _ _), (y8.1 686 (by decide)).trans mc, hc, y5.y13⟩
            obtain ⟨C2, M2, T2, x1, x2, x3, x4, x5, x6, x7, x8, x9, x10⟩ := ih _ _ (r + 1) T1 f g (by omega) (by omega) (by omega) nA (by omega) (Or.inr (by rw [sA_2, if_pos rfl, upd_at, if_pos rfl]))
            refine ⟨C2, M2, T2, x1, x2, x3, by omega, (y7.y.w13 _ _).tr x5, (y8.y.w13 _ _).tr x6, x7, fun j hj => ?_, ⟨hbo, vp_in_nI (by omega) (by omega), vp_in_nI (by omega) (by omega), y9, vp_in_nI he (by omega), x9⟩, vp_in_nI (by omega) (by omega), vp_in_nI (by omega) (by omega), vp_in_nI he (by omega), y10, vp_in_nI he (by omega), x10⟩
            rw [x8 j hj, sA_2, if_pos rfl, upd_at, if_neg hj, k13]
          · rw [if_neg (by decide), if_neg (by decide), if_neg (by decide), if_neg (by decide), sA_same (show M1.2 13 e2 = 1 by rw [km13]; exact hm)]
            have nA : AG C1 M1 R c T1 := ⟨y4, inv.y y7.y, (y8.1 686 (by decide)).trans mc, hc, y5⟩
            obtain ⟨C2, M2, T2, x1, x2, x3, x4, x5, x6, x7, x8, x9, x10⟩ := ih _ _ (r + 1) T1 f g (by omega) (by omega) (by omega) nA (by omega) (Or.inl (by rw [k13]; exact h1))
            refine ⟨C2, M2, T2, x1, x2, x3, by omega, y7.y.tr x5, y8.y.tr x6, x7, fun j hj => ?_, ⟨hbo, vp_in_nI (by omega) (by omega), vp_in_nI (by omega) (by omega), y9, x9⟩, vp_in_nI (by omega) (by omega), vp_in_nI (by omega) (by omega), vp_in_nI he (by omega), y10, vp_in_nI he (by omega), x10⟩
            rw [x8 j hj, k13]
      · have q' : ¬ nI e2 = nI e := fun z => q ((e_eq he2 he).mp z)
        rw [if_neg q', if_neg q', if_neg q', if_neg q']
        obtain ⟨C1, M1, T1, x1, x2, x3, x4, x5, x6, x7, x8, x9, x10⟩ := skip
        exact ⟨C1, M1, T1, x1, x2, x3, x4, x5, x6, x7, x8, ⟨hbo, vp_in_nI (by omega) (by omega), x9⟩, vp_in_nI (by omega) (by omega), x10⟩
    · -- barred: the class stops
      have hm : M.2 13 e = 2 := by rw [sh.a 13]; exact h2
      have hb : rs_X2_isBarred C (nI e) = (1, C) := by
        unfold rs_X2_isBarred
        rw [e8, h2, if_pos rfl]
      have hbo : ok_X2_isBarred C (nI e) := by
        unfold ok_X2_isBarred
        rw [e8, h2, if_pos rfl]
        exact ⟨vp_in_nI he (by omega), trivial⟩
      obtain ⟨s1, s2⟩ := starts_skip he hR (k + 1) M r g hr hg m1 hm
      rw [rs_X7_startIfDue_24, ok_X7_startIfDue_24, c1, if_neg (rn_lt hR (by omega)), if_neg (rn_lt hR (by omega)), hb, s1]
      unfold rs_X7_startIfDue_43 ok_X7_startIfDue_43
      dsimp only
      rw [if_neg (by decide), if_neg (by decide)]
      exact ⟨C, M, T, rfl, rfl, hA, by omega, Fy.rf, Fy.rf, Or.inr h2, fun _ _ => rfl, ⟨hbo, trivial⟩, s2⟩
