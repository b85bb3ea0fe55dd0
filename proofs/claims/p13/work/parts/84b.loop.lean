set_option maxHeartbeats 4000000 in
set_option maxRecDepth 100000 in
theorem la_end {p : Program} {l : Launch} {e : Env} {s : State} {m : MethodId} {below : List Frame} {meth : Method} {c : Code} {b L : Nat} {xs : Nat → Int32} {dC : Nat → ClassId} {dI : Nat → Nat → Nat} {cI cZ cL : ClassId} {a d : Nat → Nat} {ao : Nat} (C0 : lw_At p s m meth c b L xs) (hK : va_K (dC, dI) vwCl (tL cI cZ cL) s) (hex : exE (lA s) s) (htr : l.stackTraces = false) (hL : L ≤ 2049) {cells slots : Nat} (hc : cells ≤ 1088) (hs : slots ≤ 10362) {j : Nat} (hj : L < j + 4) (hj2 : j ≤ 4000) {C M : St} {G : Nat → Int64} (H : Heap) (locs : List Loc) (hP : va_P (dC, dI) vwCl (lW cI cZ cL a ao d C G M) H) (hD : va_D (lA s) (lW cI cZ cL a ao d C G M)) (hS : va_S (lA s) s.heap H locs) (ls : Array Slot) (hl : lv_has ls 7 [(0, .ref b), (1, .ref (a 0)), (2, .ref (d 0)), (3, .ref ao), (4, .int (nI j))]) : W p l e room_1 s m #[Value.ref b] below meth c H locs (cells) (slots) (lw_Z below #[Value.ref b] s) (F0 m 33 ls []) := by
  obtain ⟨hx, hb, hr, hml, hown, hts0, hX, hbl, hlocks, hgv⟩ := id C0
  have hown : s.vm.findClass RL = some m.cls := hown
  have hts : ∀ w ∈ wsL_law, w.before #[Value.ref b] s = true := fun w h => hts0 w (wsL_law_in w h)
  have hA : ∀ q : Nat, s.heap.size ≤ q → lA s q := fun _ h => h
  have hbA : ¬ lA s b := Nat.not_le.mpr hbl
  refine lv_iload hx hb dL_law_33 (lv_at hl 4 rfl) ?_
  refine lv_aload_n hx hb dL_law_35 rfl (lv_at hl 0 rfl) ?_
  refine va_slen hx hb hX hbl hbA hS dL_law_36 ?_
  refine lv_iconst (v := 4) hx hb dL_law_37 (by decide) ?_
  refine lv_isub hx hb dL_law_38 ?_
  refine lv_icmp_gt (tgt := 635) hx hb dL_law_39 (by decide) (fun _ => ?_) (fun c9 => absurd ((la_gt (L := L) (j := j) (by omega) (by omega)).mpr hj) c9)
  refine lv_iconst (v := 1) hx hb dL_law_635 (by decide) ?_
  refine va_forget (fun q hq => hS.2.2 q hq) ?_
  refine W.widen (k := 1088) (n := 10362) hc hs ?_
  exact lw_ret hx hb hr hlocks dL_law_636
set_option maxHeartbeats 4000000 in
set_option maxRecDepth 100000 in
theorem la_next {p : Program} {l : Launch} {e : Env} {s : State} {m : MethodId} {below : List Frame} {meth : Method} {c : Code} {b L : Nat} {xs : Nat → Int32} {dC : Nat → ClassId} {dI : Nat → Nat → Nat} {cI cZ cL : ClassId} {a d : Nat → Nat} {ao : Nat} (C0 : lw_At p s m meth c b L xs) (hK : va_K (dC, dI) vwCl (tL cI cZ cL) s) (hex : exE (lA s) s) (htr : l.stackTraces = false) {cells slots : Nat} {j : Nat} (H : Heap) (locs : List Loc) (ls : Array Slot) (hl : lv_has ls 7 [(0, .ref b), (1, .ref (a 0)), (2, .ref (d 0)), (3, .ref ao), (4, .int (nI j))]) (kk : ∀ ls : Array Slot, lv_has ls 7 [(0, .ref b), (1, .ref (a 0)), (2, .ref (d 0)), (3, .ref ao), (4, .int (nI (j + 4)))] → W p l e room_1 s m #[Value.ref b] below meth c H locs (cells) (slots) (lw_Z below #[Value.ref b] s) (F0 m 33 ls [])) : W p l e room_1 s m #[Value.ref b] below meth c H locs (cells) (slots) (lw_Z below #[Value.ref b] s) (F0 m 629 ls []) := by
  obtain ⟨hx, hb, hr, hml, hown, hts0, hX, hbl, hlocks, hgv⟩ := id C0
  have hown : s.vm.findClass RL = some m.cls := hown
  have hts : ∀ w ∈ wsL_law, w.before #[Value.ref b] s = true := fun w h => hts0 w (wsL_law_in w h)
  have hA : ∀ q : Nat, s.heap.size ≤ q → lA s q := fun _ h => h
  have hbA : ¬ lA s b := Nat.not_le.mpr hbl
  refine lv_iinc (v := nI (j + 4)) (lv' := [(4, .int (nI (j + 4))), (0, .ref b), (1, .ref (a 0)), (2, .ref (d 0)), (3, .ref ao)]) hx hb dL_law_629 hl (k := 4) rfl (show nI j + Int32.ofInt 4 = nI (j + 4) from (show Int32.ofInt 4 = nI 4 by decide) ▸ nI_add j 4) (by decide) rfl (fun ls hl => ?_)
  refine lv_goto (tgt := 33) hx hb dL_law_632 (by decide) ?_
  exact kk ls (lv_sub hl [1, 2, 3, 4, 0] rfl)
set_option maxHeartbeats 4000000 in
set_option maxRecDepth 100000 in
theorem la_loopN {p : Program} {l : Launch} {e : Env} {s : State} {m : MethodId} {below : List Frame} {meth : Method} {c : Code} {b L : Nat} {xs : Nat → Int32} {dC : Nat → ClassId} {dI : Nat → Nat → Nat} {cI cZ cL : ClassId} {a d : Nat → Nat} {ao : Nat} (C0 : lw_At p s m meth c b L xs) (hK : va_K (dC, dI) vwCl (tL cI cZ cL) s) (hex : exE (lA s) s) (htr : l.stackTraces = false) (hL : L ≤ 2049) : ∀ (n j cells slots : Nat), L ≤ j + 3 + 4 * n → j ≤ 2050 → cells + n ≤ 1088 → slots + 6 * n ≤ 10362 → ∀ {C M : St} {G : Nat → Int64} (hR : Sim C M) (H : Heap) (locs : List Loc) (hP : va_P (dC, dI) vwCl (lW cI cZ cL a ao d C G M) H) (hD : va_D (lA s) (lW cI cZ cL a ao d C G M)) (hS : va_S (lA s) s.heap H locs) (ls : Array Slot) (hl : lv_has ls 7 [(0, .ref b), (1, .ref (a 0)), (2, .ref (d 0)), (3, .ref ao), (4, .int (nI j))]), W p l e room_1 s m #[Value.ref b] below meth c H locs (cells) (slots) (lw_Z below #[Value.ref b] s) (F0 m 33 ls []) := by
  intro n
  induction n with
  | zero =>
    intro j cells slots h1 h2 h3 h4 C M G hR H locs hP hD hS ls hl
    exact la_end C0 hK hex htr hL (by omega) (by omega) (by omega) (by omega) _ _ hP hD hS _ hl
  | succ n ih =>
    intro j cells slots h1 h2 h3 h4 C M G hR H locs hP hD hS ls hl
    obtain ⟨R, K, T, N, t, hR⟩ := hR
    by_cases hj : j + 4 ≤ L
    · refine la_turn C0 hK hex htr hL (by omega) (by omega) hj (fun C M G H locs ls hR hP hD hS hl => ?_) hR _ _ hP hD hS _ hl
      refine la_next C0 hK hex htr (j := j) _ _ _ hl (fun ls hl => ?_)
      exact ih (j + 4) (cells + 1) (slots + 6) (by omega) (by omega) (by omega) (by omega) hR _ _ hP hD hS _ hl
    · exact la_end C0 hK hex htr hL (by omega) (by omega) (by omega) (by omega) _ _ hP hD hS _ hl
set_option maxHeartbeats 4000000 in
set_option maxRecDepth 100000 in
theorem la_loop {p : Program} {l : Launch} {e : Env} {s : State} {m : MethodId} {below : List Frame} {meth : Method} {c : Code} {b L : Nat} {xs : Nat → Int32} {dC : Nat → ClassId} {dI : Nat → Nat → Nat} {cI cZ cL : ClassId} {a d : Nat → Nat} {ao : Nat} (C0 : lw_At p s m meth c b L xs) (hK : va_K (dC, dI) vwCl (tL cI cZ cL) s) (hex : exE (lA s) s) (htr : l.stackTraces = false) (hL : L ≤ 2049) {cells slots : Nat} (hc : cells + 513 ≤ 1088) (hs : slots + 3078 ≤ 10362) {C M : St} {G : Nat → Int64} {R K N t : Nat} (hR : Rel C M R K 0 N t) (H : Heap) (locs : List Loc) (hP : va_P (dC, dI) vwCl (lW cI cZ cL a ao d C G M) H) (hD : va_D (lA s) (lW cI cZ cL a ao d C G M)) (hS : va_S (lA s) s.heap H locs) (ls : Array Slot) (hl : lv_has ls 7 [(0, .ref b), (1, .ref (a 0)), (2, .ref (d 0)), (3, .ref ao), (4, .int (nI 1))]) : W p l e room_1 s m #[Value.ref b] below meth c H locs (cells) (slots) (lw_Z below #[Value.ref b] s) (F0 m 33 ls []) := la_loopN C0 hK hex htr hL 513 1 cells slots (by omega) (by omega) hc hs ⟨R, K, 0, N, t, hR⟩ _ _ hP hD hS _ hl
