set_option maxHeartbeats 4000000 in
set_option maxRecDepth 100000 in
theorem la_11 {p : Program} {l : Launch} {e : Env} {s : State} {m : MethodId} {below : List Frame} {meth : Method} {c : Code} {b L : Nat} {xs : Nat → Int32} {dC : Nat → ClassId} {dI : Nat → Nat → Nat} {cI cZ cL : ClassId} {a d : Nat → Nat} {ao : Nat} (C0 : lw_At p s m meth c b L xs) (hK : va_K (dC, dI) vwCl (tL cI cZ cL) s) (hex : exE (lA s) s) (htr : l.stackTraces = false) {cells slots : Nat} (hc : cells + 1 ≤ 1088) (hs : slots + 6 ≤ 10362) {i : Int32} (hi1 : vp_in (i + 1) L) (hi2 : vp_in (i + 2) L) (hi3 : vp_in (i + 3) L) (kk : ∀ (C M : St) (G : Nat → Int64) (H : Heap) (locs : List Loc) (ls : Array Slot), Sim C M → va_P (dC, dI) vwCl (lW cI cZ cL a ao d C G M) H → va_D (lA s) (lW cI cZ cL a ao d C G M) → va_S (lA s) s.heap H locs → lv_has ls 7 [(0, .ref b), (1, .ref (a 0)), (2, .ref (d 0)), (3, .ref ao), (4, .int i)] → W p l e room_1 s m #[Value.ref b] below meth c H locs (cells + 1) (slots + 6) (lw_Z below #[Value.ref b] s) (F0 m 629 ls [])) {C M : St} {G : Nat → Int64} {R K T N t : Nat} (hR : Rel C M R K T N t) (H : Heap) (locs : List Loc) (hP : va_P (dC, dI) vwCl (lW cI cZ cL a ao d C G M) H) (hD : va_D (lA s) (lW cI cZ cL a ao d C G M)) (hS : va_S (lA s) s.heap H locs) (ls : Array Slot) (hl : lv_has ls 7 [(0, .ref b), (1, .ref (a 0)), (2, .ref (d 0)), (3, .ref ao), (4, .int i)]) : W p l e room_1 s m #[Value.ref b] below meth c H locs (cells) (slots) (lw_Z below #[Value.ref b] s) (F0 m 536 ls []) := by
  obtain ⟨hx, hb, hr, hml, hown, hts0, hX, hbl, hlocks, hgv⟩ := id C0
  have hown : s.vm.findClass RL = some m.cls := hown
  have hts : ∀ w ∈ wsL_law, w.before #[Value.ref b] s = true := fun w h => hts0 w (wsL_law_in w h)
  have hA : ∀ q : Nat, s.heap.size ≤ q → lA s q := fun _ h => h
  have hbA : ¬ lA s b := Nat.not_le.mpr hbl
  refine lv_aload_n hx hb dL_law_536 rfl (lv_at hl 1 rfl) ?_
  refine lv_aload_n hx hb dL_law_537 rfl (lv_at hl 0 rfl) ?_
  refine lv_iload hx hb dL_law_538 (lv_at hl 4 rfl) ?_
  refine lv_iconst (v := 1) hx hb dL_law_540 (by decide) ?_
  refine lv_iadd hx hb dL_law_541 ?_
  refine va_sld hx hb hX hbl hbA hS hi1 dL_law_542 ?_
  refine lv_aload_n hx hb dL_law_543 rfl (lv_at hl 0 rfl) ?_
  refine lv_iload hx hb dL_law_544 (lv_at hl 4 rfl) ?_
  refine lv_iconst (v := 2) hx hb dL_law_546 (by decide) ?_
  refine lv_iadd hx hb dL_law_547 ?_
  refine va_sld hx hb hX hbl hbA hS hi2 dL_law_548 ?_
  refine lv_aload_n hx hb dL_law_549 rfl (lv_at hl 3 rfl) ?_
  obtain ⟨hop, ok1, ok2⟩ := look_sim hR (xs (i + 1).toNatClampNeg) (xs (i + 2).toNatClampNeg)
  have hop := opK_X hop
  obtain ⟨zc, hzc⟩ : ∃ z, z = rs_X7_look C (xs (i + 1).toNatClampNeg) (xs (i + 2).toNatClampNeg) := ⟨_, rfl⟩
  obtain ⟨zm, hzm⟩ : ∃ z, z = rs_X8_look M (xs (i + 1).toNatClampNeg) (xs (i + 2).toNatClampNeg) := ⟨_, rfl⟩
  rw [← hzc, ← hzm] at hop
  have hPc := lP_c hP
  have hDc := lD_c hD
  have hFc := lF_c hD hS hA
  refine va_calli (vx_runSW (As := [.ref (a 0), .int (xs (i + 1).toNatClampNeg), .int (xs (i + 2).toNatClampNeg), .ref ao]) (rest := []) ⟨hx, hb, hml, hown, hts⟩ (c_L_look l htr dC dI cI cZ cL a ao H.size C G (xs (i + 1).toNatClampNeg) (xs (i + 2).toNatClampNeg) ok1) (vx_cwSW 4 hts gL_law_L_look rfl rfl rfl (by decide +kernel) ⟨Nat.le_of_ble_eq_true rfl, Nat.le_of_ble_eq_true rfl⟩) ⟨wBx, fun U hU hW => ⟨rfl, ⟨by rw [hU], by rw [hU]; exact hPc, va_K.moved hW.alike hK, hDc.weaken (fun _ _ _ _ => trivial)⟩, hex.mv hW hU hS.2.1 hFc⟩⟩ rfl rfl hl.1 rfl (lv_room (Nat.le_of_ble_eq_true rfl)) dL_law_550 ⟨hc, hs⟩) hS (fun q _ h => hFc q h) hFc (fun r u t H1 locs ht hvm hw hB hz1 hk1 hS => ?_)
  rw [← hzc] at hw
  obtain ⟨er, eu⟩ := hw
  subst er
  subst eu
  obtain ⟨hP1, hK1, hD1⟩ := hB
  rw [ht] at hP1
  obtain ⟨hP, hD⟩ := lJ_c hP hD hk1 hFc hP1 hD1
  generalize H1 = H at hP hS ⊢
  refine lv_istore (lv' := [(5, .int (kx zc.1)), (0, .ref b), (1, .ref (a 0)), (2, .ref (d 0)), (3, .ref ao), (4, .int i)]) hx hb dL_law_553 hl (by decide) rfl (fun ls hl => ?_)
  refine lv_aload_n hx hb dL_law_555 rfl (lv_at hl 3 rfl) ?_
  refine lv_aload_n hx hb dL_law_556 rfl (lv_at hl 1 rfl) ?_
  refine lv_iload hx hb dL_law_557 (lv_at hl 5 rfl) ?_
  refine lv_iconst (v := 1) hx hb dL_law_559 (by decide) ?_
  refine lv_iadd hx hb dL_law_560 ?_
  refine va_sld hx hb hX hbl hbA hS hi1 dL_law_561 ?_
  refine lv_aload_n hx hb dL_law_562 rfl (lv_at hl 1 rfl) ?_
  refine lv_iload hx hb dL_law_563 (lv_at hl 5 rfl) ?_
  refine lv_iconst (v := 2) hx hb dL_law_565 (by decide) ?_
  refine lv_iadd hx hb dL_law_566 ?_
  refine va_sld hx hb hX hbl hbA hS hi2 dL_law_567 ?_
  have hPc := lP_m hP
  have hDc := lD_m hD
  have hKc := hK.sub (tys' := tI cI cZ) [0, 1] rfl
  have hFc := lF_m hD hS hA
  refine va_calli (va_runV (As := [.int (xs (i + 1).toNatClampNeg), .int (xs (i + 2).toNatClampNeg)]) (rest := []) ⟨hx, hb, hml, hown, hts⟩ (c_X8_look l dC dI cI cZ d H.size M (xs (i + 1).toNatClampNeg) (xs (i + 2).toNatClampNeg) ok2) (cwV 2 hts gL_law_X8_look rfl rfl rfl (by decide +kernel) ⟨Nat.le_of_ble_eq_true rfl, Nat.le_of_ble_eq_true rfl⟩) ⟨wBl, va_recv hKc hPc (ci := 7) (q0 := 0) rfl rfl, fun U hU hW => ⟨rfl, by rw [hU], by rw [hU]; exact hPc, va_K.moved hW.alike hKc, hDc.weaken (fun _ _ _ _ => trivial)⟩⟩ rfl rfl hl.1 rfl (lv_room (Nat.le_of_ble_eq_true rfl)) dL_law_568 ⟨Nat.le_trans (by omega) hc, Nat.le_trans (by omega) hs⟩) hS (fun q _ h => hFc q h) hFc (fun r u t H1 locs ht hvm hw hB hz1 hk1 hS => ?_)
  rw [← hzm] at hw
  have er : r = zm.1 := congrArg Prod.fst hw
  have eu : u = zm.2 := congrArg Prod.snd hw
  subst er
  subst eu
  obtain ⟨hP1, hK1, hD1⟩ := hB
  rw [ht] at hP1
  obtain ⟨hP, hD⟩ := lJ_m hP hD hk1 hFc hP1 hD1
  generalize H1 = H at hP hS ⊢
  refine lv_istore (lv' := [(6, .int zm.1), (5, .int (kx zc.1)), (0, .ref b), (1, .ref (a 0)), (2, .ref (d 0)), (3, .ref ao), (4, .int i)]) hx hb dL_law_571 hl (by decide) rfl (fun ls hl => ?_)
  refine lv_aload_n hx hb dL_law_573 rfl (lv_at hl 4 rfl) ?_
  have hPc := lP_m hP
  have hDc := lD_m hD
  have hKc := hK.sub (tys' := tI cI cZ) [0, 1] rfl
  have hFc := lF_m hD hS hA
  refine va_calli (va_runV (As := []) (rest := []) ⟨hx, hb, hml, hown, hts⟩ (c_X8_thrown l dC dI cI cZ d H.size zm.2 trivial) (cwV 0 hts gL_law_X8_thrown rfl rfl rfl (by decide +kernel) ⟨Nat.le_of_ble_eq_true rfl, Nat.le_of_ble_eq_true rfl⟩) ⟨wBl, va_recv hKc hPc (ci := 7) (q0 := 0) rfl rfl, fun U hU hW => ⟨rfl, by rw [hU], by rw [hU]; exact hPc, va_K.moved hW.alike hKc, hDc.weaken (fun _ _ _ _ => trivial)⟩⟩ rfl rfl hl.1 rfl (lv_room (Nat.le_of_ble_eq_true rfl)) dL_law_574 ⟨Nat.le_trans (by omega) hc, Nat.le_trans (by omega) hs⟩) hS (fun q _ h => hFc q h) hFc (fun r u t H1 locs ht hvm hw hB hz1 hk1 hS => ?_)
  have er : r = zm.2.1 2000 := congrArg Prod.fst hw
  have eu : u = zm.2 := congrArg Prod.snd hw
  subst er
  subst eu
  obtain ⟨hP1, hK1, hD1⟩ := hB
  rw [ht] at hP1
  obtain ⟨hP, hD⟩ := lJ_m hP hD hk1 hFc hP1 hD1
  generalize H1 = H at hP hS ⊢
  refine lv_iload hx hb dL_law_577 (lv_at hl 1 rfl) ?_
  refine lv_icmp_eq (tgt := 584) hx hb dL_law_579 (by decide) (fun _ => ?_) (fun c9 => absurd hop.1 c9)
  refine lv_iload hx hb dL_law_584 (lv_at hl 1 rfl) ?_
  refine lv_if_ne (tgt := 601) hx hb dL_law_586 (by decide) (fun ck => ?_) (fun ck => ?_)
  · skip
    refine lv_goto (tgt := 629) hx hb dL_law_601 (by decide) ?_
    exact kk _ _ _ _ _ _ hop.2.2 hP hD hS (lv_sub hl [2, 3, 4, 5, 6] rfl)
  · skip
    refine lv_aload_n hx hb dL_law_589 rfl (lv_at hl 5 rfl) ?_
    refine lv_iconst (v := 0) hx hb dL_law_590 (by decide) ?_
    refine va_lald (f := (oG zc G)) hx hb hK hP 28 2 rfl rfl (show vp_in 0 1 by unfold vp_in; decide) dL_law_591 ?_
    refine lv_iload hx hb dL_law_592 (lv_at hl 0 rfl) ?_
    refine lv_i2l hx hb dL_law_594 rfl ?_
    refine W.lcmp hx hb dL_law_595 ?_
    refine lv_if_eq (tgt := 601) hx hb dL_law_596 (by decide) (fun _ => ?_) (fun c9 => absurd (out_eq (hop.2.1 ck).1 (hop.2.1 ck).2) c9)
    refine lv_goto (tgt := 629) hx hb dL_law_601 (by decide) ?_
    exact kk _ _ _ _ _ _ hop.2.2 hP hD hS (lv_sub hl [2, 3, 4, 5, 6] rfl)
