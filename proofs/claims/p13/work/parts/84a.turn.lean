set_option maxHeartbeats 4000000 in
set_option maxRecDepth 100000 in
theorem la_turn {p : Program} {l : Launch} {e : Env} {s : State} {m : MethodId} {below : List Frame} {meth : Method} {c : Code} {b L : Nat} {xs : Nat → Int32} {dC : Nat → ClassId} {dI : Nat → Nat → Nat} {cI cZ cL : ClassId} {a d : Nat → Nat} {ao : Nat} (C0 : lw_At p s m meth c b L xs) (hK : va_K (dC, dI) vwCl (tL cI cZ cL) s) (hex : exE (lA s) s) (htr : l.stackTraces = false) (hL : L ≤ 2049) {cells slots : Nat} (hc : cells + 1 ≤ 1088) (hs : slots + 6 ≤ 10362) {j : Nat} (hj : j + 4 ≤ L) (kk : ∀ (C M : St) (G : Nat → Int64) (H : Heap) (locs : List Loc) (ls : Array Slot), Sim C M → va_P (dC, dI) vwCl (lW cI cZ cL a ao d C G M) H → va_D (lA s) (lW cI cZ cL a ao d C G M) → va_S (lA s) s.heap H locs → lv_has ls 7 [(0, .ref b), (1, .ref (a 0)), (2, .ref (d 0)), (3, .ref ao), (4, .int (nI j))] → W p l e room_1 s m #[Value.ref b] below meth c H locs (cells + 1) (slots + 6) (lw_Z below #[Value.ref b] s) (F0 m 629 ls [])) {C M : St} {G : Nat → Int64} {R K T N t : Nat} (hR : Rel C M R K T N t) (H : Heap) (locs : List Loc) (hP : va_P (dC, dI) vwCl (lW cI cZ cL a ao d C G M) H) (hD : va_D (lA s) (lW cI cZ cL a ao d C G M)) (hS : va_S (lA s) s.heap H locs) (ls : Array Slot) (hl : lv_has ls 7 [(0, .ref b), (1, .ref (a 0)), (2, .ref (d 0)), (3, .ref ao), (4, .int (nI j))]) : W p l e room_1 s m #[Value.ref b] below meth c H locs (cells) (slots) (lw_Z below #[Value.ref b] s) (F0 m 33 ls []) := by
  obtain ⟨hx, hb, hr, hml, hown, hts0, hX, hbl, hlocks, hgv⟩ := id C0
  have hown : s.vm.findClass RL = some m.cls := hown
  have hts : ∀ w ∈ wsL_law, w.before #[Value.ref b] s = true := fun w h => hts0 w (wsL_law_in w h)
  have hA : ∀ q : Nat, s.heap.size ≤ q → lA s q := fun _ h => h
  have hbA : ¬ lA s b := Nat.not_le.mpr hbl
  have hi0 : vp_in (nI j) L := vp_in_nI (by omega) (by omega)
  have hi1 : vp_in (nI j + 1) L := by
    rw [show nI j + 1 = nI (j + 1) from nI_add j 1]
    exact vp_in_nI (by omega) (by omega)
  have hi2 : vp_in (nI j + 2) L := by
    rw [show nI j + 2 = nI (j + 2) from nI_add j 2]
    exact vp_in_nI (by omega) (by omega)
  have hi3 : vp_in (nI j + 3) L := by
    rw [show nI j + 3 = nI (j + 3) from nI_add j 3]
    exact vp_in_nI (by omega) (by omega)
  refine lv_iload hx hb dL_law_33 (lv_at hl 4 rfl) ?_
  refine lv_aload_n hx hb dL_law_35 rfl (lv_at hl 0 rfl) ?_
  refine va_slen hx hb hX hbl hbA hS dL_law_36 ?_
  refine lv_iconst (v := 4) hx hb dL_law_37 (by decide) ?_
  refine lv_isub hx hb dL_law_38 ?_
  refine lv_icmp_gt (tgt := 635) hx hb dL_law_39 (by decide) (fun c9 => absurd ((la_gt (L := L) (j := j) (by omega) (by omega)).mp c9) (by omega)) (fun _ => ?_)
  refine lv_aload_n hx hb dL_law_42 rfl (lv_at hl 0 rfl) ?_
  refine lv_iload hx hb dL_law_43 (lv_at hl 4 rfl) ?_
  refine va_sld hx hb hX hbl hbA hS hi0 dL_law_45 ?_
  refine lv_bipush (v := 15) hx hb dL_law_46 (by decide) ?_
  refine lv_iand hx hb dL_law_48 ?_
  generalize xs (nI j).toNatClampNeg &&& 15 = x
  by_cases c0 : x = 0
  · refine lv_tableIn (off := 67) (tgt := 116) hx hb dL_law_49 (by rw [c0]; decide) (by rw [c0]; decide) (by rw [c0]; rfl) (by decide) ?_
    exact la_0 C0 hK hex htr hc hs hi1 hi2 hi3 kk hR _ _ hP hD hS _ hl
  by_cases c1 : x = 1
  · refine lv_tableIn (off := 123) (tgt := 172) hx hb dL_law_49 (by rw [c1]; decide) (by rw [c1]; decide) (by rw [c1]; rfl) (by decide) ?_
    exact la_1 C0 hK hex htr hc hs hi1 hi2 hi3 kk hR _ _ hP hD hS _ hl
  by_cases c2 : x = 2
  · refine lv_tableIn (off := 175) (tgt := 224) hx hb dL_law_49 (by rw [c2]; decide) (by rw [c2]; decide) (by rw [c2]; rfl) (by decide) ?_
    exact la_2 C0 hK hex htr hc hs hi1 hi2 hi3 kk hR _ _ hP hD hS _ hl
  by_cases c3 : x = 3
  · refine lv_tableIn (off := 212) (tgt := 261) hx hb dL_law_49 (by rw [c3]; decide) (by rw [c3]; decide) (by rw [c3]; rfl) (by decide) ?_
    exact la_3 C0 hK hex htr hc hs hi1 hi2 hi3 kk hR _ _ hP hD hS _ hl
  by_cases c4 : x = 4
  · refine lv_tableIn (off := 237) (tgt := 286) hx hb dL_law_49 (by rw [c4]; decide) (by rw [c4]; decide) (by rw [c4]; rfl) (by decide) ?_
    exact la_4 C0 hK hex htr hc hs hi1 hi2 hi3 kk hR _ _ hP hD hS _ hl
  by_cases c5 : x = 5
  · refine lv_tableIn (off := 274) (tgt := 323) hx hb dL_law_49 (by rw [c5]; decide) (by rw [c5]; decide) (by rw [c5]; rfl) (by decide) ?_
    exact la_5 C0 hK hex htr hc hs hi1 hi2 hi3 kk hR _ _ hP hD hS _ hl
  by_cases c6 : x = 6
  · refine lv_tableIn (off := 311) (tgt := 360) hx hb dL_law_49 (by rw [c6]; decide) (by rw [c6]; decide) (by rw [c6]; rfl) (by decide) ?_
    exact la_6 C0 hK hex htr hc hs hi1 hi2 hi3 kk hR _ _ hP hD hS _ hl
  by_cases c7 : x = 7
  · refine lv_tableIn (off := 339) (tgt := 388) hx hb dL_law_49 (by rw [c7]; decide) (by rw [c7]; decide) (by rw [c7]; rfl) (by decide) ?_
    exact la_7 C0 hK hex htr hc hs hi1 hi2 hi3 kk hR _ _ hP hD hS _ hl
  by_cases c8 : x = 8
  · refine lv_tableIn (off := 367) (tgt := 416) hx hb dL_law_49 (by rw [c8]; decide) (by rw [c8]; decide) (by rw [c8]; rfl) (by decide) ?_
    exact la_8 C0 hK hex htr hc hs hi1 hi2 hi3 kk hR _ _ hP hD hS _ hl
  by_cases c9 : x = 9
  · refine lv_tableIn (off := 407) (tgt := 456) hx hb dL_law_49 (by rw [c9]; decide) (by rw [c9]; decide) (by rw [c9]; rfl) (by decide) ?_
    exact la_9 C0 hK hex htr hc hs hi1 hi2 hi3 kk hR _ _ hP hD hS _ hl
  by_cases c10 : x = 10
  · refine lv_tableIn (off := 447) (tgt := 496) hx hb dL_law_49 (by rw [c10]; decide) (by rw [c10]; decide) (by rw [c10]; rfl) (by decide) ?_
    exact la_10 C0 hK hex htr hc hs hi1 hi2 hi3 kk hR _ _ hP hD hS _ hl
  by_cases c11 : x = 11
  · refine lv_tableIn (off := 487) (tgt := 536) hx hb dL_law_49 (by rw [c11]; decide) (by rw [c11]; decide) (by rw [c11]; rfl) (by decide) ?_
    exact la_11 C0 hK hex htr hc hs hi1 hi2 hi3 kk hR _ _ hP hD hS _ hl
  by_cases c12 : x = 12
  · refine lv_tableIn (off := 555) (tgt := 604) hx hb dL_law_49 (by rw [c12]; decide) (by rw [c12]; decide) (by rw [c12]; rfl) (by decide) ?_
    exact la_12 C0 hK hex htr hc hs hi1 hi2 hi3 kk hR _ _ hP hD hS _ hl
  refine lv_tableOut (tgt := 629) hx hb dL_law_49 (by have q0 := lv_neT (a := 0) c0 (by decide); have q1 := lv_neT (a := 1) c1 (by decide); have q2 := lv_neT (a := 2) c2 (by decide); have q3 := lv_neT (a := 3) c3 (by decide); have q4 := lv_neT (a := 4) c4 (by decide); have q5 := lv_neT (a := 5) c5 (by decide); have q6 := lv_neT (a := 6) c6 (by decide); have q7 := lv_neT (a := 7) c7 (by decide); have q8 := lv_neT (a := 8) c8 (by decide); have q9 := lv_neT (a := 9) c9 (by decide); have q10 := lv_neT (a := 10) c10 (by decide); have q11 := lv_neT (a := 11) c11 (by decide); have q12 := lv_neT (a := 12) c12 (by decide); omega) (by decide) ?_
  refine W.widen (k := cells + 1) (n := slots + 6) (by omega) (by omega) ?_
  exact kk _ _ _ _ _ _ ⟨R, K, T, N, t, hR⟩ hP hD hS hl
