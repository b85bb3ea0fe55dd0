set_option maxHeartbeats 4000000 in
set_option maxRecDepth 100000 in
theorem la_2 {p : Program} {l : Launch} {e : Env} {s : State} {m : MethodId} {below : List Frame} {meth : Method} {c : Code} {b L : Nat} {xs : Nat → Int32} {dC : Nat → ClassId} {dI : Nat → Nat → Nat} {cI cZ cL : ClassId} {a d : Nat → Nat} {ao : Nat} (C0 : lw_At p s m meth c b L xs) (hK : va_K (dC, dI) vwCl (tL cI cZ cL) s) (hex : exE (lA s) s) (htr : l.stackTraces = false) {cells slots : Nat} (hc : cells + 1 ≤ 1088) (hs : slots + 6 ≤ 10362) {i : Int32} (hi1 : vp_in (i + 1) L) (hi2 : vp_in (i + 2) L) (hi3 : vp_in (i + 3) L) (kk : ∀ (C M : St) (G : Nat → Int64) (H : Heap) (locs : List Loc) (ls : Array Slot), Sim C M → va_P (dC, dI) vwCl (lW cI cZ cL a ao d C G M) H → va_D (lA s) (lW cI cZ cL a ao d C G M) → va_S (lA s) s.heap H locs → lv_has ls 7 [(0, .ref b), (1, .ref (a 0)), (2, .ref (d 0)), (3, .ref ao), (4, .int i)] → W p l e room_1 s m #[Value.ref b] below meth c H locs (cells + 1) (slots + 6) (lw_Z below #[Value.ref b] s) (F0 m 629 ls [])) {C M : St} {G : Nat → Int64} {R K T N t : Nat} (hR : Rel C M R K T N t) (H : Heap) (locs : List Loc) (hP : va_P (dC, dI) vwCl (lW cI cZ cL a ao d C G M) H) (hD : va_D (lA s) (lW cI cZ cL a ao d C G M)) (hS : va_S (lA s) s.heap H locs) (ls : Array Slot) (hl : lv_has ls 7 [(0, .ref b), (1, .ref (a 0)), (2, .ref (d 0)), (3, .ref ao), (4, .int i)]) : W p l e room_1 s m #[Value.ref b] below meth c H locs (cells) (slots) (lw_Z below #[Value.ref b] s) (F0 m 224 ls []) := by
  obtain ⟨hx, hb, hr, hml, hown, hts0, hX, hbl, hlocks, hgv⟩ := id C0
  have hown : s.vm.findClass RL = some m.cls := hown
  have hts : ∀ w ∈ wsL_law, w.before #[Value.ref b] s = true := fun w h => hts0 w (wsL_law_in w h)
  have hA : ∀ q : Nat, s.heap.size ≤ q → lA s q := fun _ h => h
  have hbA : ¬ lA s b := Nat.not_le.mpr hbl
  refine lv_aload_n hx hb dL_law_224 rfl (lv_at hl 1 rfl) ?_
  refine lv_aload_n hx hb dL_law_225 rfl (lv_at hl 0 rfl) ?_
  refine lv_iload hx hb dL_law_226 (lv_at hl 4 rfl) ?_
  refine lv_iconst (v := 1) hx hb dL_law_228 (by decide) ?_
  refine lv_iadd hx hb dL_law_229 ?_
  refine va_sld hx hb hX hbl hbA hS hi1 dL_law_230 ?_
  refine lv_aload_n hx hb dL_law_231 rfl (lv_at hl 0 rfl) ?_
  refine lv_iload hx hb dL_law_232 (lv_at hl 4 rfl) ?_
  refine lv_iconst (v := 2) hx hb dL_law_234 (by decide) ?_
  refine lv_iadd hx hb dL_law_235 ?_
  refine va_sld hx hb hX hbl hbA hS hi2 dL_law_236 ?_
  obtain ⟨hop, ok1, ok2⟩ := field_sim hR (xs (i + 1).toNatClampNeg) (xs (i + 2).toNatClampNeg)
  obtain ⟨zc, hzc⟩ : ∃ z, z = rs_X7_field C (xs (i + 1).toNatClampNeg) (xs (i + 2).toNatClampNeg) := ⟨_, rfl⟩
  obtain ⟨zm, hzm⟩ : ∃ z, z = rs_X8_field M (xs (i + 1).toNatClampNeg) (xs (i + 2).toNatClampNeg) := ⟨_, rfl⟩
  rw [← hzc, ← hzm] at hop
  have hPc := lP_h hP
  have hDc := lD_h hD
  have hKc := hK.sub (tys' := tI cI cZ) [0, 1] rfl
  have hFc := lF_h hD hS hA
  refine va_calli (va_runV (As := [.int (xs (i + 1).toNatClampNeg), .int (xs (i + 2).toNatClampNeg)]) (rest := []) ⟨hx, hb, hml, hown, hts⟩ (c_X7_field l dC dI cI cZ a H.size C (xs (i + 1).toNatClampNeg) (xs (i + 2).toNatClampNeg) ok1) (cwV 2 hts gL_law_X7_field rfl rfl rfl (by decide +kernel) ⟨Nat.le_of_ble_eq_true rfl, Nat.le_of_ble_eq_true rfl⟩) ⟨wBl, va_recv hKc hPc (ci := 6) (q0 := 0) rfl rfl, fun U hU hW => ⟨rfl, by rw [hU], by rw [hU]; exact hPc, va_K.moved hW.alike hKc, hDc.weaken (fun _ _ _ _ => trivial)⟩⟩ rfl rfl hl.1 rfl (lv_room (Nat.le_of_ble_eq_true rfl)) dL_law_237 ⟨Nat.le_trans (by omega) hc, Nat.le_trans (by omega) hs⟩) hS (fun q _ h => hFc q h) hFc (fun r u t H1 locs ht hvm hw hB hz1 hk1 hS => ?_)
  rw [← hzc] at hw
  have er : r = zc.1 := congrArg Prod.fst hw
  have eu : u = zc.2 := congrArg Prod.snd hw
  subst er
  subst eu
  obtain ⟨hP1, hK1, hD1⟩ := hB
  rw [ht] at hP1
  obtain ⟨hP, hD⟩ := lJ_h hP hD hk1 hFc hP1 hD1
  generalize H1 = H at hP hS ⊢
  refine lv_pop hx hb dL_law_240 rfl ?_
  refine lv_aload_n hx hb dL_law_241 rfl (lv_at hl 2 rfl) ?_
  refine lv_aload_n hx hb dL_law_242 rfl (lv_at hl 0 rfl) ?_
  refine lv_iload hx hb dL_law_243 (lv_at hl 4 rfl) ?_
  refine lv_iconst (v := 1) hx hb dL_law_245 (by decide) ?_
  refine lv_iadd hx hb dL_law_246 ?_
  refine va_sld hx hb hX hbl hbA hS hi1 dL_law_247 ?_
  refine lv_aload_n hx hb dL_law_248 rfl (lv_at hl 0 rfl) ?_
  refine lv_iload hx hb dL_law_249 (lv_at hl 4 rfl) ?_
  refine lv_iconst (v := 2) hx hb dL_law_251 (by decide) ?_
  refine lv_iadd hx hb dL_law_252 ?_
  refine va_sld hx hb hX hbl hbA hS hi2 dL_law_253 ?_
  have hPc := lP_m hP
  have hDc := lD_m hD
  have hKc := hK.sub (tys' := tI cI cZ) [0, 1] rfl
  have hFc := lF_m hD hS hA
  refine va_calli (va_runV (As := [.int (xs (i + 1).toNatClampNeg), .int (xs (i + 2).toNatClampNeg)]) (rest := []) ⟨hx, hb, hml, hown, hts⟩ (c_X8_field l dC dI cI cZ d H.size M (xs (i + 1).toNatClampNeg) (xs (i + 2).toNatClampNeg) ok2) (cwV 2 hts gL_law_X8_field rfl rfl rfl (by decide +kernel) ⟨Nat.le_of_ble_eq_true rfl, Nat.le_of_ble_eq_true rfl⟩) ⟨wBl, va_recv hKc hPc (ci := 7) (q0 := 0) rfl rfl, fun U hU hW => ⟨rfl, by rw [hU], by rw [hU]; exact hPc, va_K.moved hW.alike hKc, hDc.weaken (fun _ _ _ _ => trivial)⟩⟩ rfl rfl hl.1 rfl (lv_room (Nat.le_of_ble_eq_true rfl)) dL_law_254 ⟨Nat.le_trans (by omega) hc, Nat.le_trans (by omega) hs⟩) hS (fun q _ h => hFc q h) hFc (fun r u t H1 locs ht hvm hw hB hz1 hk1 hS => ?_)
  rw [← hzm] at hw
  have er : r = zm.1 := congrArg Prod.fst hw
  have eu : u = zm.2 := congrArg Prod.snd hw
  subst er
  subst eu
  obtain ⟨hP1, hK1, hD1⟩ := hB
  rw [ht] at hP1
  obtain ⟨hP, hD⟩ := lJ_m hP hD hk1 hFc hP1 hD1
  generalize H1 = H at hP hS ⊢
  refine lv_pop hx hb dL_law_257 rfl ?_
  refine lv_goto (tgt := 629) hx hb dL_law_258 (by decide) ?_
  refine W.widen (k := cells + 1) (n := slots + 6) (by omega) (by omega) ?_
  exact kk _ _ _ _ _ _ hop.2 hP hD hS (lv_sub hl [0, 1, 2, 3, 4] rfl)
