/-! A RUN of both -/
/-- behind a run: the shared part; the steps counted on both sides; the depth where it did not fail -/
def RnEnd (C M C1 M1 : St) (n : Nat) : Prop := Sh C1 M1 ∧ C1.1 1044 = nI n ∧ n ≤ 65536 ∧ (C1.1 1045 = 0 → ∃ D, D ≤ 8 ∧ C1.1 1042 = nI D ∧ M1.1 1042 = nI D) ∧ (C1.1 1045 = 0 ∨ C1.1 1045 = 1 ∨ C1.1 1045 = 2 ∨ C1.1 1045 = 3) ∧ (∃ t, t ≤ 16 ∧ C1.1 1043 = nI t) ∧ Fr C C1 ∧ Fr M M1
/-- a rule that may run: its operations, its edition -/
def RuOK (C : St) (r : Nat) : Prop := ∃ L e, L ≤ 16 ∧ e < 4 ∧ C.2 6 r = nI L ∧ C.2 4 r = nI e ∧ ∀ t, t < L → opOK (C.2 9 (16 * r + t)) (C.2 10 (16 * r + t))
theorem x16 {r : Nat} (hr : r < 12) : nI r * 16 = nI (16 * r) := by
  rw [show (16 : Int32) = nI 16 by decide, pk_mul, Nat.mul_comm]
theorem run_loop {r L e lim : Nat} (hr : r < 12) (hL : L ≤ 16) (he : e < 4) (hlim : lim ≤ 65536) :
    ∀ (k : Nat) (C M : St) (m D t : Nat) (f g : Nat), m + k = lim → k + 1 ≤ f → k + 3 ≤ g → Sh C M → C.1 1040 = nI lim → C.1 1044 = nI m → C.1 1045 = 0 → D ≤ 8 → C.1 1042 = nI D → M.1 1042 = nI D → t ≤ 16 → C.1 1043 = nI t →
      C.2 6 r = nI L → C.2 4 r = nI e → (∀ t, t < L → opOK (C.2 9 (16 * r + t)) (C.2 10 (16 * r + t))) →
      ∃ C1 M1 n, rs_X4_run_29 f C (nI (16 * r)) (nI L) (nI e) (nI m) = C1 ∧ rs_X8_runs_17 g M (nI r) (nI m) = rs_X8_runs_84 M1 (nI r) (nI n) ∧ RnEnd C M C1 M1 n ∧ ok_X4_run_29 f C (nI (16 * r)) (nI L) (nI e) (nI m) ∧ (ok_X8_runs_84 M1 (nI r) (nI n) → ok_X8_runs_17 g M (nI r) (nI m)) := by
  intro k
  induction k with
  | zero =>
    intro C M m D t f g hm hf hg h hli hst hfa h8 hD hM ht ha hLn hen hops
    obtain ⟨f, rfl⟩ : ∃ z, f = z + 1 := ⟨f - 1, by omega⟩
    obtain ⟨g, rfl⟩ : ∃ z, g = z + 1 := ⟨g - 1, by omega⟩
    obtain ⟨g, rfl⟩ : ∃ z, g = z + 1 := ⟨g - 1, by omega⟩
    have hfm : M.1 1045 = 0 := (h.i 1045).trans hfa
    have ham : M.1 1043 = nI t := (h.i 1043).trans ha
    have hlm : M.1 1040 = nI lim := (h.i 1040).trans hli
    have hLm : M.2 6 r = nI L := by rw [h.a 6]; exact hLn
    have em : m = lim := by omega
    subst em
    rw [rs_X4_run_29, ok_X4_run_29, if_pos (by rw [hli]; exact (n_le (by omega) (by omega)).mpr (Nat.le_refl _)), if_pos (by rw [hli]; exact (n_le (by omega) (by omega)).mpr (Nat.le_refl _))]
    rw [rs_X8_runs_17, ok_X8_runs_17, if_pos hfm, if_pos hfm, cl_n (by omega), hLm, ham, hlm, if_pos rfl, if_pos rfl]
    unfold rs_X4_run_103 ok_X4_run_103
    rw [ha]
    by_cases q : L ≤ t
    · have q' : nI L ≤ nI t := (n_le (by omega) (by omega)).mpr q
      rw [if_pos q', if_pos q', if_pos q', if_pos q']
      exact ⟨C, M, m, rfl, rfl, ⟨h, hst, hlim, fun _ => ⟨D, h8, hD, hM⟩, Or.inl hfa, ⟨t, ht, ha⟩, Fr.rf, Fr.rf⟩, trivial, fun z => ⟨vp_in_nI hr (by omega), z⟩⟩
    · have q' : ¬ nI L ≤ nI t := fun z => q ((n_le (by omega) (by omega)).mp z)
      rw [if_neg q', if_neg q', if_neg q', if_neg q', if_pos hfa, if_pos hfa]
      refine ⟨_, sI M 1045 1, m, rfl, ?_, ⟨h.wI _ _, hst, hlim, fun z => absurd z (by rw [sI_1, if_pos rfl]; decide), Or.inr (Or.inl rfl), ⟨t, ht, ha⟩, Fr.rf.wI _ _ (by decide), Fr.rf.wI _ _ (by decide)⟩, trivial, fun z => ⟨vp_in_nI hr (by omega), ?_⟩⟩
      · rw [rs_X8_runs_17, if_neg (by rw [sI_1, if_pos rfl]; decide)]
      · rw [ok_X8_runs_17, if_neg (by rw [sI_1, if_pos rfl]; decide)]
        exact z
  | succ k ih =>
    intro C M m D t f g hm hf hg h hli hst hfa h8 hD hM ht ha hLn hen hops
    obtain ⟨f, rfl⟩ : ∃ z, f = z + 1 := ⟨f - 1, by omega⟩
    obtain ⟨g, rfl⟩ : ∃ z, g = z + 1 := ⟨g - 1, by omega⟩
    have hfm : M.1 1045 = 0 := (h.i 1045).trans hfa
    have ham : M.1 1043 = nI t := (h.i 1043).trans ha
    have hlm : M.1 1040 = nI lim := (h.i 1040).trans hli
    have hLm : M.2 6 r = nI L := by rw [h.a 6]; exact hLn
    have nl : ¬ nI lim ≤ nI m := fun z => absurd ((n_le (by omega) (by omega)).mp z) (by omega)
    have ne : ¬ nI m = nI lim := fun z => absurd ((n_eq (by omega) (by omega)).mp z) (by omega)
    rw [rs_X4_run_29, ok_X4_run_29, hli, if_neg nl, if_neg nl, ha]
    rw [rs_X8_runs_17, ok_X8_runs_17, if_pos hfm, if_pos hfm, cl_n (by omega), hLm, ham, hlm, if_neg ne, if_neg ne]
    by_cases q : L ≤ t
    · have q' : nI L ≤ nI t := (n_le (by omega) (by omega)).mpr q
      rw [if_pos q', if_pos q', if_pos q', if_pos q']
      unfold rs_X4_run_103 ok_X4_run_103
      rw [ha, if_pos q', if_pos q']
      exact ⟨C, M, m, rfl, rfl, ⟨h, hst, by omega, fun _ => ⟨D, h8, hD, hM⟩, Or.inl hfa, ⟨t, ht, ha⟩, Fr.rf, Fr.rf⟩, trivial, fun z => ⟨vp_in_nI hr (by omega), z⟩⟩
    · have q' : ¬ nI L ≤ nI t := fun z => q ((n_le (by omega) (by omega)).mp z)
      rw [if_neg q', if_neg q', if_neg q', if_neg q', if_pos hfa, if_pos hfa, nI_add, cl_n (by omega), hst, nI_1]
      obtain ⟨⟨sh1, dep1, ⟨t1, ht1, ha1⟩, fl1, st1, fc1, fm1⟩, ok1, ok2⟩ := step_sim (C := sI C 1044 (nI (m + 1))) (M := M) (D := D) (t := t) (e := e) (r := r) (h.cI 1044 _ (by decide)) hD hM h8 (by omega) ha hfa (hops t (by omega)) he hr rfl rfl hen
      have sa : (sI C 1044 (nI (m + 1))).2 9 (16 * r + t) = C.2 9 (16 * r + t) := rfl
      have sb : (sI C 1044 (nI (m + 1))).2 10 (16 * r + t) = C.2 10 (16 * r + t) := rfl
      generalize hC1 : rs_X4_step (sI C 1044 (nI (m + 1))) (C.2 9 (16 * r + t)) (C.2 10 (16 * r + t)) (nI e) = C1 at *
      generalize hM1 : mNext (rs_X8_goes M (nI r)) = M1 at *
      have hfr : Fr C C1 := (Fr.rf.wI 1044 _ (by decide)).tr fc1
      -- the reference's next turn
      have em : rs_X8_runs_61 (rs_X8_runs_17 g) (rs_X8_goes M (nI r)).2 (nI r) (nI (m + 1)) (rs_X8_goes M (nI r)).1 = rs_X8_runs_17 g M1 (nI r) (nI (m + 1)) := by
        rw [← hM1]
        unfold rs_X8_runs_61 rs_X8_runs_78 mNext
        split <;> rfl
      have eo : ok_X8_runs_17 g M1 (nI r) (nI (m + 1)) → ok_X8_runs_61 (ok_X8_runs_17 g) (rs_X8_goes M (nI r)).2 (nI r) (nI (m + 1)) (rs_X8_goes M (nI r)).1 := by
        rw [← hM1]
        unfold ok_X8_runs_61 ok_X8_runs_78 mNext
        intro z
        split
        · next w => rw [if_pos w] at z; exact z
        · next w => rw [if_neg w] at z; exact z
      rw [em]
      unfold rs_X4_run_97 ok_X4_run_97
      rw [nI_1]
      have a6 : C1.2 6 r = nI L := by rw [hfr.2 6 (by decide) (by decide)]; exact hLn
      have a4 : C1.2 4 r = nI e := by rw [hfr.2 4 (by decide) (by decide)]; exact hen
      have aops : ∀ t, t < L → opOK (C1.2 9 (16 * r + t)) (C1.2 10 (16 * r + t)) := by
        intro t' h'
        rw [hfr.2 9 (by decide) (by decide), hfr.2 10 (by decide) (by decide)]
        exact hops t' h'
      have al : C1.1 1040 = nI lim := (hfr.1 1040 (by decide) (by decide) (by decide) (by decide)).trans hli
      have as1 : C1.1 1044 = nI (m + 1) := st1
      by_cases w : C1.1 1045 = 0
      · obtain ⟨D1, h81, hD1, hM1'⟩ := dep1 w
        obtain ⟨C2, M2, n2, e1, e2, e3, e4, e5⟩ := ih C1 M1 (m + 1) D1 t1 f g (by omega) (by omega) (by omega) sh1 al as1 w h81 hD1 hM1' ht1 ha1 a6 a4 aops
        refine ⟨C2, M2, n2, e1, e2, ?_, ⟨vp_in_nI (by omega) (by omega), vp_in_nI (by omega) (by omega), ok1, e4⟩, fun z => ⟨vp_in_nI hr (by omega), ok2, eo (e5 z)⟩⟩
        obtain ⟨b1, b2, b3, b4, b5, b6, b7, b8⟩ := e3
        exact ⟨b1, b2, b3, b4, b5, b6, hfr.tr b7, fm1.tr b8⟩
      · -- it failed: both stop
        have wm : ¬ M1.1 1045 = 0 := by rw [sh1.i 1045]; exact w
        obtain ⟨f, rfl⟩ : ∃ z, f = z + 1 := ⟨f - 1, by omega⟩
        obtain ⟨g, rfl⟩ : ∃ z, g = z + 1 := ⟨g - 1, by omega⟩
        have ex : rs_X4_run_103 C1 (nI L) = C1 := by
          unfold rs_X4_run_103
          split
          · rfl
          · rfl
        have exo : ok_X4_run_103 C1 (nI L) := by
          unfold ok_X4_run_103
          split
          · trivial
          · trivial
        have g1 : rs_X4_run_29 (f + 1) C1 (nI (16 * r)) (nI L) (nI e) (nI (m + 1)) = C1 := by
          rw [rs_X4_run_29]
          split
          · exact ex
          · split
            · exact ex
            · exact ex
        have g2 : ok_X4_run_29 (f + 1) C1 (nI (16 * r)) (nI L) (nI e) (nI (m + 1)) := by
          rw [ok_X4_run_29]
          split
          · exact exo
          · split
            · exact exo
            · exact exo
        refine ⟨C1, M1, m + 1, g1, ?_, ⟨sh1, as1, by omega, fun z => absurd z w, ?_, ⟨t1, ht1, ha1⟩, hfr, fm1⟩, ⟨vp_in_nI (by omega) (by omega), vp_in_nI (by omega) (by omega), ok1, g2⟩, fun z => ⟨vp_in_nI hr (by omega), ok2, eo ?_⟩⟩
        · rw [rs_X8_runs_17, if_neg wm]
        · rcases fl1 with z | z | z
          · exact Or.inl z
          · exact Or.inr (Or.inr (Or.inl z))
          · exact Or.inr (Or.inr (Or.inr z))
        · rw [ok_X8_runs_17, if_neg wm]
          exact z
