def Sim (C M : St) : Prop := ∃ R K T N t, Rel C M R K T N t
/-- a call that may throw: the same kind; the same answer where none is thrown; alike behind it -/
def OpT (zc : Int32 × Int32 × St) (zm : Int32 × St) : Prop := zm.2.1 2000 = zc.1 ∧ (zc.1 = 0 → zc.2.1 = zm.1) ∧ Sim zc.2.2 zm.2
/-- a call that doesn't throw -/
def OpN (zc zm : Int32 × St) : Prop := zc.1 = zm.1 ∧ Sim zc.2 zm.2
theorem four_eq (x : Int32) : rs_X7_isBelow x 4 = rs_X8_isFour x := rfl
theorem below_ok {x y : Int32} : ok_X7_isBelow x y := by
  unfold ok_X7_isBelow ok_X7_isBelow_13
  repeat' split
  all_goals trivial
theorem four_ok {x : Int32} : ok_X8_isFour x := by
  unfold ok_X8_isFour ok_X8_isFour_13
  repeat' split
  all_goals trivial
theorem below_1 {x : Int32} {n : Nat} (hn : n < 2 ^ 31) (h : ¬ rs_X7_isBelow x (nI n) = 0) : ∃ j, j < n ∧ x = nI j := by
  unfold rs_X7_isBelow rs_X7_isBelow_13 at h
  by_cases a : x < 0
  · rw [if_pos a] at h
    exact absurd rfl h
  · rw [if_neg a] at h
    by_cases b : nI n ≤ x
    · rw [if_pos b] at h
      exact absurd rfl h
    · rcases pk_ix x hn with z | z | ⟨j, hj, e⟩
      · exact absurd z a
      · exact absurd z b
      · exact ⟨j, hj, e⟩
theorem ref_eq (M : St) (v : Int32) : rs_X8_refuse M v = (0, sI M 2000 v) := rfl
/-- AN ASK -/
theorem ask_sim {C M : St} {R K T N t : Nat} (h : Rel C M R K T N t) (o : Int32) : OpT (rs_X7_ask C o) (rs_X8_ask M o) ∧ ok_X7_ask C o ∧ ok_X8_ask M o := by
  obtain ⟨sh, s18, k1, k2, hK, inv, fr, hT, hS, hN, ⟨n1, hNN, n2, htN⟩, r23, r22, r6, r687, rd, rp⟩ := id h
  have hR := inv.2.1
  unfold rs_X7_ask rs_X8_ask ok_X7_ask ok_X8_ask
  rw [four_eq]
  by_cases a : rs_X8_isFour o = 0
  · rw [if_pos a, if_pos a, if_pos a, if_pos a]
    exact ⟨⟨rfl, fun z => absurd z (show ¬ (1 : Int32) = 0 by decide), ⟨R, K, T, N, t, h.m2000 1⟩⟩, ⟨below_ok, trivial⟩, ⟨four_ok, trivial, trivial⟩⟩
  · rw [if_neg a, if_neg a, if_neg a, if_neg a, k1, k2]
    by_cases b : K < 40
    · have b1 : nI K < 40 := (n_lt (b := 40) (by omega) (by omega)).mpr b
      have b2 : ¬ nI K = 40 := fun z => absurd ((n_eq (b := 40) (by omega) (by omega)).mp z) (by omega)
      rw [if_pos b1, if_pos b1, if_neg b2, if_neg b2]
      have eo : rs_X0_open C o = (nI K, sI (sA C 18 K o) 686 (nI (K + 1))) := by
        unfold rs_X0_open rs_X0_open_12
        rw [sA_1, k1, a1, cl_n (by omega)]
      have oo : ok_X0_open C o := ⟨by rw [k1]; exact vp_in_nI b (by omega), trivial⟩
      rw [eo]
      unfold rs_X7_ask_48 ok_X7_ask_48 rs_X8_ask_33 ok_X8_ask_33
      dsimp only
      rw [show (sI M 2000 0).1 686 = nI K from k2, cl_n (by omega), sA_same (S := sI M 2000 0) (p := 23) (j := K) (v := 0) (by rw [sI_2, sh.a 23]; exact r23 K (Nat.le_refl _))]
      have inv0 : Inv (sI (sA C 18 K o) 686 (nI (K + 1))) R := inv.eq rfl rfl rfl rfl rfl rfl
      have sh0 : Sh (sI (sA C 18 K o) 686 (nI (K + 1))) (sI M 2000 0) := ((sh.cA 18 _ _ (by decide)).cI 686 _ (by decide)).mI 2000 _ (by decide)
      have A0 : AG (sI (sA C 18 K o) 686 (nI (K + 1))) (sI M 2000 0) R K T := ⟨sh0, inv0, k2, b, ⟨fr.1, fr.2.1, fr.2.2⟩⟩
      obtain ⟨C1, M1, T1, x1, x2, x3, x4, x5, x6, x7, x8, x9, x10, x11⟩ := ed_loop 4 _ _ 0 T 100 100 o (by omega) (by omega) (by omega) A0 (by omega) hS hN
      obtain ⟨C2, M2, T2, q, y1, y2, y3, y4, y5, y6, y7, y8, y9⟩ := pl_loop R C1 M1 0 0 T1 100 100 o (by omega) (by omega) (by omega) x3 (by omega) x7 (fun j hj hc => x9 j (by omega) hj (by rw [x5.2.1 4 (by decide)] at hc; exact hc)) (by omega)
      have e1 : rs_X7_runPlainRules C1 (nI K) = (nI q, C2) := y1
      have f2 : Fy (sI (sA C 18 K o) 686 (nI (K + 1))) C2 K := x5.tr y5.y
      have g2 : Fy (sI M 2000 0) M2 K := x6.tr y6.y
      obtain ⟨w, xx, t1, C3, M3, z1, z2, z3, z4, z5, z6, z7, z8⟩ := tail_sim (C := C2) (M := M2) (K := K) (N := N) (t := t) (q := q) (o := o) y3.1 b y3.2.2.1 ((f2.1 601 (by decide)).trans n1) hNN ((f2.1 602 (by decide)).trans n2) htN y7
      rw [e1] at x1
      have x1' : rs_X7_ask_51 100 (sI (sA C 18 K o) 686 (nI (K + 1))) (nI K) 0 = rs_X7_ask_73 C2 (nI K) (nI q) := x1
      have x2' : rs_X8_ask_45 100 (sI M 2000 0) o 0 = rs_X8_ask_82 100 M1 o 0 0 := x2
      rw [x1', x2']
      have y2' : rs_X8_ask_82 100 M1 o 0 0 = mTail M2 o (nI q) := y2
      rw [z1, y2', z2]
      -- what C3, M3 are
      have sh3 : Sh C3 M3 := by
        rcases z7 with ⟨rfl, rfl, _⟩ | ⟨rfl, rfl⟩
        · exact y3.1
        · exact y3.1.wI _ _
      have i3 : ∀ k, k ≠ 602 → C3.1 k = C2.1 k := by
        intro k hk
        rcases z7 with ⟨rfl, rfl, _⟩ | ⟨rfl, rfl⟩
        · rfl
        · rw [sI_1, if_neg hk]
      have j3 : ∀ k, k ≠ 602 → M3.1 k = M2.1 k := by
        intro k hk
        rcases z7 with ⟨rfl, rfl, _⟩ | ⟨rfl, rfl⟩
        · rfl
        · rw [sI_1, if_neg hk]
      have p3 : C3.2 = C2.2 := by
        rcases z7 with ⟨rfl, rfl, _⟩ | ⟨rfl, rfl⟩ <;> rfl
      have q3 : M3.2 = M2.2 := by
        rcases z7 with ⟨rfl, rfl, _⟩ | ⟨rfl, rfl⟩ <;> rfl
      have o20 : (mFin M3 K o (nI q) w xx).1 2000 = 0 := by
        show M3.1 2000 = 0
        rw [j3 2000 (by decide), g2.1 2000 (by decide)]
        rfl
      refine ⟨⟨o20, fun _ => rfl, ⟨R, K + 1, T2, N, t1, ?_⟩⟩, ⟨below_ok, oo, x10 ⟨by show ok_X7_runPlainRules_4 100 C1 (nI K) 0 0; exact y8, by rw [e1]; exact z3⟩⟩, four_ok, by exact vp_in_nI b (by omega), x11 (y9 z4)⟩
      unfold cFin mFin
      refine ⟨((((sh3.mA 18 K o (by decide)).wA _ _ _).wA _ _ _).wA _ _ _).mI 686 _ (by decide), ?_, ?_, rfl, by omega, ?_, ?_, by omega, ?_, ?_, ⟨?_, hNN, z8, z6⟩, ?_, ?_, ?_, ?_, ?_, ?_⟩
      · show C3.2 18 = upd (M3.2 18) K o
        rw [p3, q3, f2.2.1 18 (by decide), g2.2.1 18 (by decide)]
        show upd (C.2 18) K o = upd (M.2 18) K o
        rw [s18]
      · show C3.1 686 = nI (K + 1)
        rw [i3 686 (by decide), f2.1 686 (by decide)]
        rfl
      · exact y3.2.1.eq (i3 127 (by decide)) (i3 1040 (by decide)) (by show C3.2 4 = _; rw [p3]) (by show C3.2 6 = _; rw [p3]) (by show C3.2 9 = _; rw [p3]) (by show C3.2 10 = _; rw [p3])
      · obtain ⟨v1, v2, v3⟩ := y3.2.2.2.2
        refine ⟨(i3 961 (by decide)).trans v1, (j3 2001 (by decide)).trans v2, fun i hi => ?_⟩
        show C3.2 25 _ = M3.2 30 _ ∧ C3.2 25 _ = M3.2 31 _ ∧ C3.2 25 _ = M3.2 32 _ ∧ C3.2 25 _ = M3.2 33 _
        rw [p3, q3]
        exact v3 i hi
      · intro j hj
        show C3.2 13 j = 0 ∨ C3.2 13 j = 1 ∨ C3.2 13 j = 2
        rw [p3, y5.2.1 13 (by decide)]
        exact x7 j hj
      · intro j hj
        show C3.2 14 j = nI (cnt (C3.2 4) (nI j) R)
        rw [p3, f2.2.1 14 (by decide), f2.2.1 4 (by decide)]
        exact hN j hj
      · show C3.1 601 = nI N
        rw [i3 601 (by decide), f2.1 601 (by decide)]
        exact n1
      · intro j hj
        show C3.2 23 j = 0
        rw [p3, f2.2.2 j (by omega)]
        exact r23 j (by omega)
      · intro j hj
        show C3.2 22 j = 0
        rw [p3, f2.2.1 22 (by decide)]
        exact r22 j (by omega)
      · intro r hr
        show C3.2 6 r = 0
        rw [p3, f2.2.1 6 (by decide)]
        exact r6 r hr
      · show C3.1 687 = nI (dcn (C3.2 22) (K + 1))
        rw [p3, f2.2.1 22 (by decide), i3 687 (by decide), f2.1 687 (by decide), dcn]
        show C.1 687 = nI (dcn (C.2 22) K + (if C.2 22 K = 0 then 0 else 1))
        rw [if_pos (r22 K (Nat.le_refl _))]
        exact r687
      · intro j hj
        show C3.2 22 j = 0 ∨ C3.2 22 j = 1
        rw [p3, f2.2.1 22 (by decide)]
        by_cases e : j = K
        · subst e
          exact Or.inl (r22 j (Nat.le_refl _))
        · exact rd j (by omega)
      · intro j hj hu
        have hu' : C.2 22 j = 0 := by
          have : C3.2 22 j = 0 := hu
          rw [p3, f2.2.1 22 (by decide)] at this
          exact this
        show 2 ≤ upd (C3.2 20) K w j ↔ 50 ≤ upd (C3.2 19) K (nI q) j
        rw [upd_at, upd_at]
        by_cases e : j = K
        · rw [if_pos e, if_pos e]
          exact z5
        · rw [if_neg e, if_neg e, p3, f2.2.1 20 (by decide), f2.2.1 19 (by decide)]
          exact rp j (by omega) hu'
    · have e40 : K = 40 := by omega
      subst e40
      rw [if_neg (show ¬ nI 40 < 40 by decide), if_pos (show nI 40 = 40 by decide), if_neg (show ¬ nI 40 < 40 by decide), if_pos (show nI 40 = 40 by decide)]
      exact ⟨⟨rfl, fun z => absurd z (show ¬ (2 : Int32) = 0 by decide), ⟨R, 40, T, N, t, h.m2000 2⟩⟩, ⟨below_ok, trivial⟩, ⟨four_ok, trivial, trivial⟩⟩
