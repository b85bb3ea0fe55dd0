theorem op_eq {S S1 : St} (h18 : S1.2 18 = S.2 18) (h22 : S1.2 22 = S.2 22) (o : Int32) : opB S1 o = opB S o := by
  funext j
  unfold opB
  rw [h18, h22]
theorem rk_eq {S S1 : St} (h18 : S1.2 18 = S.2 18) (h19 : S1.2 19 = S.2 19) (h22 : S1.2 22 = S.2 22) (c : Nat) : rkB S1 c = rkB S c := by
  funext j
  unfold rkB goB
  rw [op_eq h18 h22, h18, h19]
theorem cu_eq {S S1 : St} (h18 : S1.2 18 = S.2 18) (h19 : S1.2 19 = S.2 19) (h20 : S1.2 20 = S.2 20) (h22 : S1.2 22 = S.2 22) (o cap : Int32) (K : Nat) : cuB S1 o cap K = cuB S o cap K := by
  funext j
  unfold cuB
  rw [op_eq h18 h22, rk_eq h18 h19 h22, h20]
theorem pa_eq {S S1 : St} (h18 : S1.2 18 = S.2 18) (h19 : S1.2 19 = S.2 19) (h20 : S1.2 20 = S.2 20) (h22 : S1.2 22 = S.2 22) (o cap : Int32) (K n : Nat) : paF S1 o cap K n = paF S o cap K n := by
  funext j
  unfold paF
  rw [cu_eq h18 h19 h20 h22, h20]
theorem de_eq {S S1 : St} (h18 : S1.2 18 = S.2 18) (h22 : S1.2 22 = S.2 22) (o : Int32) (n : Nat) : deF S1 o n = deF S o n := by
  funext j
  unfold deF
  rw [op_eq h18 h22, h22]
theorem dcn_de {S : St} {o : Int32} {K : Nat} : ∀ n, n ≤ K → dcn (deF S o K) n = dcn (S.2 22) n + cb (opB S o) n := by
  intro n
  induction n with
  | zero => intro _; rfl
  | succ n ih =>
    intro hn
    rw [dcn, dcn, cb, ih (by omega)]
    have e : deF S o K n = if opB S o n = true then 1 else S.2 22 n := by
      unfold deF
      simp [show n < K by omega]
    rw [e]
    by_cases p : opB S o n = true
    · have z : S.2 22 n = 0 := by
        unfold opB at p
        simp at p
        exact p.2
      rw [if_pos p, if_pos p, if_neg (by decide), if_pos z]
      omega
    · rw [if_neg p, if_neg p]
      omega
/-- ranks by points alone are ranks among those of path 2 or 3 -/
theorem rank_eq {S : St} {K c : Nat} (rp : ∀ j, j < K → S.2 22 j = 0 → (2 ≤ S.2 20 j ↔ 50 ≤ S.2 19 j)) (hc : c < K) (hu : S.2 22 c = 0) (h2 : ¬ S.2 20 c < 2) : cb (ahB S c) K = cb (rkB S c) K := by
  refine cb_congr K (fun j hj => ?_)
  unfold ahB rkB
  by_cases g : goB S j c = true
  · by_cases p : opB S (S.2 18 c) j = true
    · have z : S.2 22 j = 0 := by
        unfold opB at p
        simp at p
        exact p.2
      have w : ¬ S.2 20 j ≤ 1 := by
        have a1' : (2 : Int32) ≤ S.2 20 c := by rw [lei]; rw [li] at h2; omega
        have a2' := (rp c hc hu).mp a1'
        have a3' : S.2 19 c ≤ S.2 19 j := by
          unfold goB at g
          simp at g
          rcases g with q | q
          · rw [lei]; rw [li] at q; omega
          · rw [q.1, lei]; omega
        have a4' : (2 : Int32) ≤ S.2 20 j := (rp j hj z).mpr (by rw [lei] at a2' a3' ⊢; omega)
        have t1 : (1 : Int32).toInt = 1 := by decide
        have t2 : (2 : Int32).toInt = 2 := by decide
        rw [lei] at a4' ⊢
        omega
      rw [g, p, decide_eq_false w]
      rfl
    · have pf : opB S (S.2 18 c) j = false := by simpa using p
      rw [pf]
      simp
  · have gf : goB S j c = false := by simpa using g
    rw [gf]
    simp
/-- A DECIDE -/
theorem dec_sim {C M : St} {R K T N t : Nat} (h : Rel C M R K T N t) (o : Int32) : OpT (rs_X7_decide C o) (rs_X8_decide M o) ∧ ok_X7_decide C o ∧ ok_X8_decide M o := by
  obtain ⟨sh, s18, k1, k2, hK, inv, fr, hT, hS, hN, hn, r23, r22, r6, r687, rd, rp⟩ := id h
  unfold rs_X7_decide rs_X8_decide ok_X7_decide ok_X8_decide
  rw [four_eq]
  by_cases a : rs_X8_isFour o = 0
  · simp only [if_pos a]
    exact ⟨⟨rfl, fun z => absurd z (show ¬ (1 : Int32) = 0 by decide), ⟨_, _, _, _, _, h.m2000 1⟩⟩, ⟨below_ok, trivial⟩, four_ok, trivial, trivial⟩
  · simp only [if_neg a]
    obtain ⟨e, he, ee⟩ := below_1 (n := 4) (by omega) (show ¬ rs_X7_isBelow o 4 = 0 from a)
    have o8 : o.toNatClampNeg = e := by rw [ee]; exact cl_n (by omega)
    have vo : vp_in o 4 := by rw [ee]; exact vp_in_nI he (by omega)
    rw [o8]
    obtain ⟨cap, hcap⟩ : ∃ z, z = C.2 2 e := ⟨_, rfl⟩
    rw [← hcap]
    -- the class
    obtain ⟨x1, x2⟩ := cut_loop (o := o) (cap := cap) hK C k1 K 0 100 (by omega) (by omega)
    rw [paF_0, sR_id] at x1 x2
    have x1' : rs_X0_cutPaths C o cap = sR C 20 (paF C o cap K K) := x1
    have x2' : ok_X0_cutPaths C o cap := x2
    obtain ⟨y1, y2⟩ := close_loop (o := o) hK (sR C 20 (paF C o cap K K)) k1 K 0 100 (by omega) (by omega)
    rw [deF_0, sR_id] at y1 y2
    rw [de_eq (S := C) (S1 := sR C 20 (paF C o cap K K)) rfl rfl] at y1
    have y1' : rs_X0_close (sR C 20 (paF C o cap K K)) o = (nI (cb (opB C o) K), sI (sR (sR C 20 (paF C o cap K K)) 22 (deF C o K)) 687 (C.1 687 + nI (cb (opB C o) K))) := y1
    have y2' : ok_X0_close (sR C 20 (paF C o cap K K)) o := y2
    rw [x1']
    unfold rs_X7_decide_32 ok_X7_decide_32 rs_X7_decide_40 ok_X7_decide_40
    rw [y1']
    dsimp only
    -- the reference
    have m18 : (sI M 2000 0).2 18 = C.2 18 := s18.symm
    have m19 : (sI M 2000 0).2 19 = C.2 19 := sh.a 19
    have m20 : (sI M 2000 0).2 20 = C.2 20 := sh.a 20
    have m22 : (sI M 2000 0).2 22 = C.2 22 := sh.a 22
    have m2 : (sI M 2000 0).2 2 e = cap := by rw [hcap, sI_2, sh.a 2]
    obtain ⟨B, b1, b2, b3⟩ := keep_loop (o := o) (cap := cap) hK (sI M 2000 0) k2 he ee m2 K 0 100 0 (by omega) (by omega) (BtB_0 _)
    have hk : ∀ j, j < K → opB (sI M 2000 0) o j = true → kbB (sI M 2000 0) o cap K j = !cuB (sI M 2000 0) o cap K j := by
      intro j hj p
      unfold kbB cuB
      rw [p]
      by_cases w : (sI M 2000 0).2 20 j < 2
      · rw [decide_eq_true w]
        rfl
      · have z : (sI M 2000 0).2 22 j = 0 := by
          unfold opB at p
          simp at p
          exact p.2
        rw [rank_eq (S := sI M 2000 0) (fun i hi hu => by rw [m22] at hu; rw [m20, m19]; exact rp i hi hu) hj z w, decide_eq_false w]
        by_cases u : nI (cb (rkB (sI M 2000 0) j) K) < cap
        · have u2 : ¬ cap ≤ nI (cb (rkB (sI M 2000 0) j) K) := by rw [lei]; rw [li] at u; omega
          simp [u, u2]
        · have u2 : cap ≤ nI (cb (rkB (sI M 2000 0) j) K) := by rw [lei]; rw [li] at u; omega
          simp [u, u2]
    obtain ⟨d1, d2⟩ := done_loop (o := o) (cap := cap) hK (sI M 2000 0) k2 b1 hk K 0 100 (by omega) (by omega)
    rw [paF_0, sR_id, deF_0, sR_id] at d1 d2
    have b2' : rs_X8_decide_23 100 (sI M 2000 0) o 0 0 = rs_X8_decide_102 100 (sI M 2000 0) o (lN B) 0 0 := b2
    have d1' : rs_X8_decide_102 100 (sI M 2000 0) o (lN B) 0 0 = (nI (cb (opB (sI M 2000 0) o) K), sR (sR (sI M 2000 0) 20 (paF (sI M 2000 0) o cap K K)) 22 (deF (sI M 2000 0) o K)) := d1
    rw [b2', d1', op_eq m18 m22, pa_eq m18 m19 m20 m22, de_eq m18 m22]
    refine ⟨⟨rfl, fun _ => rfl, ⟨R, K, T, N, t, ?_⟩⟩, ⟨below_ok, vo, x2', y2', trivial⟩, four_ok, b3 d2⟩
    have dv : ∀ j, j < K → deF C o K j = if opB C o j = true then 1 else C.2 22 j := by
      intro j hj
      unfold deF
      simp [hj]
    refine ⟨(((sh.mI 2000 _ (by decide)).wR 20 _).wR 22 _).cI 687 _ (by decide), s18, k1, k2, hK, inv.eq rfl rfl rfl rfl rfl rfl, ⟨fr.1, fr.2.1, fr.2.2⟩, hT, hS, hN, hn, r23, ?_, r6, ?_, ?_, ?_⟩
    · intro j hj
      show deF C o K j = 0
      unfold deF
      rw [decide_eq_false (show ¬ j < K by omega)]
      simp
      exact r22 j hj
    · show C.1 687 + nI (cb (opB C o) K) = nI (dcn (deF C o K) K)
      rw [r687, nI_add, dcn_de K (Nat.le_refl _)]
    · intro j hj
      show deF C o K j = 0 ∨ deF C o K j = 1
      rw [dv j hj]
      split
      · exact Or.inr rfl
      · exact rd j hj
    · intro j hj hu
      have hu' : deF C o K j = 0 := hu
      rw [dv j hj] at hu'
      by_cases p : opB C o j = true
      · rw [if_pos p] at hu'
        exact absurd hu' (by decide)
      · rw [if_neg p] at hu'
        have pf : opB C o j = false := by simpa using p
        show 2 ≤ paF C o cap K K j ↔ 50 ≤ C.2 19 j
        have e1 : paF C o cap K K j = C.2 20 j := by
          unfold paF cuB
          rw [pf]
          simp
        rw [e1]
        exact rp j hj hu'
