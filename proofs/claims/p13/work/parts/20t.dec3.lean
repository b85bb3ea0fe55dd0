/-! DECIDE: the reference -/
def kbB (S : St) (o cap : Int32) (K j : Nat) : Bool := opB S o j && (decide (S.2 20 j < 2) || decide (¬ cap ≤ nI (cb (ahB S j) K)))
def BtB (kb : Nat → Bool) (B n : Nat) : Prop := B < 2 ^ n ∧ ∀ c, B.testBit c = (decide (c < n) && kb c)
theorem BtB_0 (kb : Nat → Bool) : BtB kb 0 0 := ⟨by decide, fun c => by simp⟩
theorem BtB_1 {kb : Nat → Bool} {B n : Nat} (h : BtB kb B n) (k : kb n = true) : BtB kb (B ||| 2 ^ n) (n + 1) := by
  refine ⟨Nat.or_lt_two_pow (Nat.lt_of_lt_of_le h.1 (Nat.pow_le_pow_right (by decide) (by omega))) (Nat.pow_lt_pow_right (by decide) (by omega)), fun c => ?_⟩
  rw [Nat.testBit_or, h.2, Nat.testBit_two_pow]
  by_cases e : c = n
  · subst e
    simp [k]
  · have e' : ¬ n = c := fun z => e z.symm
    by_cases w : c < n
    · simp [w, e', show c < n + 1 by omega]
    · simp [w, e', show ¬ c < n + 1 by omega]
theorem BtB_0' {kb : Nat → Bool} {B n : Nat} (h : BtB kb B n) (k : kb n = false) : BtB kb B (n + 1) := by
  refine ⟨Nat.lt_of_lt_of_le h.1 (Nat.pow_le_pow_right (by decide) (by omega)), fun c => ?_⟩
  rw [h.2]
  by_cases e : c = n
  · subst e
    simp [k]
  · by_cases w : c < n
    · simp [w, show c < n + 1 by omega]
    · simp [w, show ¬ c < n + 1 by omega]
theorem p40 {n : Nat} (h : n ≤ 40) : 2 ^ n ≤ 2 ^ 40 := Nat.pow_le_pow_right (by decide) h
theorem bit_or {B n : Nat} (hB : B < 2 ^ n) (hn : n < 40) : lN B ||| ((1 : Int64) <<< ((nI n).toInt64 &&& 63)) = lN (B ||| 2 ^ n) := by
  have p := p40 (show n ≤ 40 by omega)
  rw [show (1 : Int64) = lN 1 from rfl, wb_shl 1 (by omega), Nat.one_mul, wb_or (by omega) (by omega)]
theorem bit_or0 {B : Nat} (hB : B < 2 ^ 40) : lN B ||| (0 : Int64) = lN B := by
  rw [show (0 : Int64) = lN 0 from rfl, wb_or (by omega) (by omega), Nat.or_zero]
theorem bit_at {B n : Nat} (hB : B < 2 ^ 40) (hn : n < 40) : lg_cmp ((lN B >>> ((nI n).toInt64 &&& 63)) &&& 1) 1 = 0 ↔ B.testBit n = true := by
  have hD : ((lN n).toBitVec.smod 64).toNat = n := by
    rw [wb_tb, wb_sm n (by omega), BitVec.toNat_ofNat, Nat.mod_eq_of_lt (by omega)]
  have hd : B / 2 ^ n ≤ B := Nat.div_le_self _ _
  rw [wb_c n (by omega), pf_shr hD (by omega), wb_a1 (by omega), Nat.testBit_eq_decide_div_mod_eq]
  rcases Nat.mod_two_eq_zero_or_one (B / 2 ^ n) with z | z <;> rw [z] <;> decide
theorem keep_loop {o cap : Int32} {K e : Nat} (hK : K ≤ 40) (M : St) (h1 : M.1 686 = nI K) (he : e < 4) (ho : o = nI e) (hcap : M.2 2 e = cap) : ∀ (k n g B : Nat), n + k = K → k + 1 ≤ g → BtB (kbB M o cap K) B n →
    ∃ B1, BtB (kbB M o cap K) B1 K ∧ rs_X8_decide_23 g M o (lN B) (nI n) = rs_X8_decide_102 100 M o (lN B1) 0 0 ∧ (ok_X8_decide_102 100 M o (lN B1) 0 0 → ok_X8_decide_23 g M o (lN B) (nI n)) := by
  intro k
  induction k with
  | zero =>
    intro n g B hn hg hB
    obtain ⟨g, rfl⟩ : ∃ z, g = z + 1 := ⟨g - 1, by omega⟩
    have e : n = K := by omega
    subst e
    have z : nI n ≤ nI n := (n_le (by omega) (by omega)).mpr (Nat.le_refl _)
    rw [rs_X8_decide_23, ok_X8_decide_23, h1, if_pos z, if_pos z]
    exact ⟨B, hB, rfl, fun q => q⟩
  | succ k ih =>
    intro n g B hn hg hB
    obtain ⟨g, rfl⟩ : ∃ z, g = z + 1 := ⟨g - 1, by omega⟩
    have z : ¬ nI K ≤ nI n := fun w => absurd ((n_le (by omega) (by omega)).mp w) (by omega)
    have vn : vp_in (nI n) 40 := vp_in_nI (by omega) (by omega)
    have b40 : B < 2 ^ 40 := Nat.lt_of_lt_of_le hB.1 (p40 (by omega))
    rw [rs_X8_decide_23, ok_X8_decide_23, h1, if_neg z, if_neg z, cl_n (show n < 2 ^ 31 by omega)]
    unfold rs_X8_decide_80 ok_X8_decide_80 rs_X8_decide_87 ok_X8_decide_87 rs_X8_decide_88 ok_X8_decide_88
    rw [bit_or hB.1 (by omega), bit_or0 b40, show nI n + 1 = nI (n + 1) from nI_1 n]
    have one : kbB M o cap K n = true → _ := fun q => ih (n + 1) g (B ||| 2 ^ n) (by omega) (by omega) (BtB_1 hB q)
    have zero : kbB M o cap K n = false → _ := fun q => ih (n + 1) g B (by omega) (by omega) (BtB_0' hB q)
    by_cases p : M.2 18 n = o
    · by_cases q : M.2 22 n = 0
      · have op : opB M o n = true := by unfold opB; rw [decide_eq_true p, decide_eq_true q]; rfl
        simp only [if_pos p, if_pos q]
        by_cases w : M.2 20 n < 2
        · obtain ⟨B1, x1, x2, x3⟩ := one (by unfold kbB; rw [op, decide_eq_true w]; rfl)
          simp only [if_pos w]
          exact ⟨B1, x1, x2, fun y => ⟨vn, vn, vn, x3 y⟩⟩
        · obtain ⟨r1, r2⟩ := ahead_loop (c := n) hK (by omega) K M 0 100 (by omega) (by omega) h1
          have r1' : rs_X8_ahead M (nI n) = (nI (cb (ahB M n) K), M) := r1
          have r2' : ok_X8_ahead M (nI n) := r2
          simp only [if_neg w]
          rw [r1']
          unfold rs_X8_decide_71 ok_X8_decide_71 rs_X8_decide_80 ok_X8_decide_80 rs_X8_decide_87 ok_X8_decide_87 rs_X8_decide_88 ok_X8_decide_88
          dsimp only
          rw [bit_or hB.1 (by omega), bit_or0 b40, show nI n + 1 = nI (n + 1) from nI_1 n]
          have vo : vp_in o 4 := by rw [ho]; exact vp_in_nI he (by omega)
          have co : M.2 2 o.toNatClampNeg = cap := by rw [ho, cl_n (by omega)]; exact hcap
          rw [co]
          by_cases u : cap ≤ nI (cb (ahB M n) K)
          · have uf : decide (¬ cap ≤ nI (cb (ahB M n) K)) = false := decide_eq_false (fun z => z u)
            obtain ⟨B1, x1, x2, x3⟩ := zero (by unfold kbB; rw [op, decide_eq_false w, uf]; rfl)
            simp only [if_pos u]
            exact ⟨B1, x1, x2, fun y => ⟨vn, vn, vn, r2', vo, x3 y⟩⟩
          · obtain ⟨B1, x1, x2, x3⟩ := one (by unfold kbB; rw [op, decide_eq_true u]; simp)
            simp only [if_neg u]
            exact ⟨B1, x1, x2, fun y => ⟨vn, vn, vn, r2', vo, x3 y⟩⟩
      · have op : opB M o n = false := by unfold opB; rw [decide_eq_false q]; simp
        obtain ⟨B1, x1, x2, x3⟩ := zero (by unfold kbB; rw [op]; rfl)
        simp only [if_pos p, if_neg q]
        exact ⟨B1, x1, x2, fun y => ⟨vn, vn, x3 y⟩⟩
    · have op : opB M o n = false := by unfold opB; rw [decide_eq_false p]; rfl
      obtain ⟨B1, x1, x2, x3⟩ := zero (by unfold kbB; rw [op]; rfl)
      simp only [if_neg p]
      exact ⟨B1, x1, x2, fun y => ⟨vn, x3 y⟩⟩
theorem sA_RR (S : St) (n : Nat) (v : Int32) (f g : Nat → Int32) : sA (sR (sR S 20 f) 22 g) 20 n v = sR (sR S 20 (upd f n v)) 22 g := by
  unfold sA sR
  dsimp only
  congr 1
  funext q
  unfold va_up
  by_cases a : q = 20
  · subst a
    simp
  · by_cases b : q = 22
    · subst b
      simp
    · simp [a, b]
theorem done_loop {o cap : Int32} {K B : Nat} (hK : K ≤ 40) (M : St) (h1 : M.1 686 = nI K) (hB : BtB (kbB M o cap K) B K) (hk : ∀ j, j < K → opB M o j = true → kbB M o cap K j = !cuB M o cap K j) : ∀ (k n g : Nat), n + k = K → k + 1 ≤ g →
    rs_X8_decide_102 g (sR (sR M 20 (paF M o cap K n)) 22 (deF M o n)) o (lN B) (nI (cb (opB M o) n)) (nI n) = (nI (cb (opB M o) K), sR (sR M 20 (paF M o cap K K)) 22 (deF M o K)) ∧ ok_X8_decide_102 g (sR (sR M 20 (paF M o cap K n)) 22 (deF M o n)) o (lN B) (nI (cb (opB M o) n)) (nI n) := by
  intro k
  induction k with
  | zero =>
    intro n g hn hg
    obtain ⟨g, rfl⟩ : ∃ z, g = z + 1 := ⟨g - 1, by omega⟩
    have e : n = K := by omega
    subst e
    have z : nI n ≤ nI n := (n_le (by omega) (by omega)).mpr (Nat.le_refl _)
    rw [rs_X8_decide_102, ok_X8_decide_102, sR_1, sR_1, h1, if_pos z, if_pos z]
    exact ⟨rfl, trivial⟩
  | succ k ih =>
    intro n g hn hg
    obtain ⟨g, rfl⟩ : ∃ z, g = z + 1 := ⟨g - 1, by omega⟩
    obtain ⟨i1, i2⟩ := ih (n + 1) g (by omega) (by omega)
    have z : ¬ nI K ≤ nI n := fun w => absurd ((n_le (by omega) (by omega)).mp w) (by omega)
    have vn : vp_in (nI n) 40 := vp_in_nI (by omega) (by omega)
    have b40 : B < 2 ^ 40 := Nat.lt_of_lt_of_le hB.1 (p40 hK)
    have n8 : (nI n).toNatClampNeg = n := cl_n (by omega)
    rw [rs_X8_decide_102, ok_X8_decide_102, sR_1, sR_1, h1, if_neg z, if_neg z, n8]
    rw [show (sR (sR M 20 (paF M o cap K n)) 22 (deF M o n)).2 18 n = M.2 18 n from rfl, show (sR (sR M 20 (paF M o cap K n)) 22 (deF M o n)).2 22 n = M.2 22 n from deF_n, show (sR (sR M 20 (paF M o cap K n)) 22 (deF M o n)).2 20 n = M.2 20 n from paF_n]
    unfold rs_X8_decide_160 ok_X8_decide_160 rs_X8_decide_161 ok_X8_decide_161 rs_X8_decide_172 ok_X8_decide_172
    rw [n8, sA_RR, sA_RR, sA_R, sA_R, nar1, show nI n + 1 = nI (n + 1) from nI_1 n]
    rw [deF_s, paF_s, cb] at i1 i2
    by_cases p : M.2 18 n = o
    · by_cases q : M.2 22 n = 0
      · have op : opB M o n = true := by unfold opB; rw [decide_eq_true p, decide_eq_true q]; rfl
        have tb : B.testBit n = kbB M o cap K n := by rw [hB.2, decide_eq_true (show n < K by omega)]; rfl
        have hkn := hk n (by omega) op
        simp only [op, if_true] at i1 i2
        simp only [if_pos p, if_pos q]
        rw [a1]
        by_cases w : kbB M o cap K n = true
        · have cf : cuB M o cap K n = false := by
            rw [w] at hkn
            cases hc : cuB M o cap K n
            · rfl
            · rw [hc] at hkn; cases hkn
          have lw := (bit_at b40 (show n < 40 by omega)).mpr (tb.trans w)
          simp only [if_pos lw]
          simp only [cf, Bool.false_eq_true, if_false] at i1 i2
          have eu : upd (paF M o cap K n) n (M.2 20 n) = paF M o cap K n := by
            have := upd_id (paF M o cap K n) n
            rw [paF_n] at this
            exact this
          rw [eu]
          exact ⟨i1, vn, vn, vn, vn, vn, i2⟩
        · have wf : kbB M o cap K n = false := by simpa using w
          have cf : cuB M o cap K n = true := by
            rw [wf] at hkn
            cases hc : cuB M o cap K n
            · rw [hc] at hkn; cases hkn
            · rfl
          have lw : ¬ lg_cmp ((lN B >>> ((nI n).toInt64 &&& 63)) &&& 1) 1 = 0 := fun y => w (tb.symm.trans ((bit_at b40 (show n < 40 by omega)).mp y))
          simp only [if_neg lw]
          simp only [cf, if_true] at i1 i2
          exact ⟨i1, vn, vn, vn, vn, i2⟩
      · have op : opB M o n = false := by unfold opB; rw [decide_eq_false q]; simp
        have cf : cuB M o cap K n = false := by unfold cuB; rw [op]; rfl
        simp only [op, cf, Bool.false_eq_true, if_false, Nat.add_zero] at i1 i2
        simp only [if_pos p, if_neg q]
        exact ⟨i1, vn, vn, i2⟩
    · have op : opB M o n = false := by unfold opB; rw [decide_eq_false p]; rfl
      have cf : cuB M o cap K n = false := by unfold cuB; rw [op]; rfl
      simp only [op, cf, Bool.false_eq_true, if_false, Nat.add_zero] at i1 i2
      simp only [if_neg p]
      exact ⟨i1, vn, i2⟩
