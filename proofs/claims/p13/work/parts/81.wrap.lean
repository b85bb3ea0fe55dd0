/-! THE LAW'S WRAPPERS -/
abbrev tL (cI cZ cL : ClassId) : List (ClassId × FieldType) := [(cI, .int), (cZ, .boolean), (cL, .long)]
abbrev cO (cI cZ cL : ClassId) (a : Nat → Nat) (ao : Nat) (S : St) (g : Nat → Int64) : va_W := cW cI cZ a S ++ [(ao, .inl (cL, 1, .inr (.inl g)))]
def kx (k : Int32) : Int32 := if k = 3 then 1 else k
def oG (z : Int32 × Int32 × St) (g : Nat → Int64) : Nat → Int64 := if z.1 = 0 then vp_updL g 0 z.2.1.toInt64 else g
theorem wBx {D : va_G} {cl : List vw_C} {tys : List (ClassId × FieldType)} {w : va_W} {sz : Nat} {av : List Value} {A : Nat → Prop} : FrameBlind (va_Pc av (fun U => (U.heap.size = sz ∧ va_P D cl w U.heap ∧ va_K D cl tys U ∧ va_D (fun _ => True) w) ∧ exE A U)) := by
  intro a U g mk q
  obtain ⟨q0, ⟨q1, qP, qK, qD⟩, qE⟩ := q
  exact ⟨q0, ⟨q1, qP, va_K.moved (u := U) (U := U.calling g mk a) (Vm.Alike.refl U.vm) qK, qD⟩, qE.bl⟩
theorem ex3 {E : String} (h : E ∈ exC) : E = "java/lang/IllegalArgumentException" ∨ E = "java/lang/IllegalStateException" ∨ E = "java/lang/IndexOutOfBoundsException" := by simpa [exC] using h
theorem kd_rule (S : St) (x y : Int32) : (rs_X7_rule S x y).1 = 0 ∨ (rs_X7_rule S x y).1 = 1 ∨ (rs_X7_rule S x y).1 = 2 := by
  unfold rs_X7_rule rs_X7_rule_41 rs_X7_rule_38 rs_X7_rule_73 rs_X7_rule_41
  repeat' split
  all_goals simp
theorem kd_operation (S : St) (x y z : Int32) : (rs_X7_operation S x y z).1 = 0 ∨ (rs_X7_operation S x y z).1 = 1 ∨ (rs_X7_operation S x y z).1 = 2 := by
  unfold rs_X7_operation rs_X7_operation_22 rs_X7_operation_65 rs_X7_operation_62 rs_X7_operation_85 rs_X7_operation_65
  repeat' split
  all_goals simp
theorem kd_ask73 (S : St) (x y : Int32) : (rs_X7_ask_73 S x y).1 = 0 := by
  unfold rs_X7_ask_73 rs_X7_ask_92 rs_X7_ask_99 rs_X7_ask_100 rs_X7_ask_119 rs_X7_ask_124
  repeat' split
  all_goals rfl
theorem kd_ask51 : ∀ (n : Nat) (S : St) (x y : Int32), (rs_X7_ask_51 n S x y).1 = 0 := by
  intro n
  induction n with
  | zero => intro S x y; rfl
  | succ n ih =>
    intro S x y
    rw [rs_X7_ask_51]
    split
    · exact kd_ask73 _ _ _
    · exact ih _ _ _
theorem kd_ask (S : St) (x : Int32) : (rs_X7_ask S x).1 = 0 ∨ (rs_X7_ask S x).1 = 1 ∨ (rs_X7_ask S x).1 = 2 := by
  unfold rs_X7_ask rs_X7_ask_48
  split
  · simp
  · split
    · exact Or.inl (kd_ask51 _ _ _ _)
    · simp
theorem kd_decide (S : St) (x : Int32) : (rs_X7_decide S x).1 = 0 ∨ (rs_X7_decide S x).1 = 1 := by
  unfold rs_X7_decide rs_X7_decide_32 rs_X7_decide_40
  split <;> simp
theorem kd_of (S : St) (x y : Int32) : (rs_X7_of S x y).1 = 0 ∨ (rs_X7_of S x y).1 = 3 := by
  unfold rs_X7_of rs_X7_of_22 rs_X7_of_41
  repeat' split
  all_goals simp
theorem kd_failed (S : St) (x y : Int32) : (rs_X7_failed S x y).1 = 0 ∨ (rs_X7_failed S x y).1 = 3 := by
  unfold rs_X7_failed rs_X7_failed_8 rs_X7_failed_22 rs_X7_failed_41
  repeat' split
  all_goals simp
theorem kd_edition (S : St) (x y : Int32) : (rs_X7_edition S x y).1 = 0 ∨ (rs_X7_edition S x y).1 = 3 := by
  unfold rs_X7_edition rs_X7_edition_16 rs_X7_edition_35
  repeat' split
  all_goals simp
theorem kd_look (S : St) (x y : Int32) : (rs_X7_look S x y).1 = 0 ∨ (rs_X7_look S x y).1 = 3 := by
  unfold rs_X7_look rs_X7_look_22 rs_X7_look_41
  repeat' split
  all_goals simp
abbrev rm_L_rule : Room := { frames := 7, cells := 1, slots := 6, locals := 104 }
set_option maxHeartbeats 4000000 in
set_option maxRecDepth 100000 in
theorem c_L_rule (l : Launch) (htr : l.stackTraces = false) (dC : Nat → ClassId) (dI : Nat → Nat → Nat) (cI cZ cL : ClassId) (a : Nat → Nat) (ao : Nat) (sz : Nat) (S : St) (g : Nat → Int64) (x1 x2 : Int32) (hok : ok_X7_rule S x1 x2) : Met l yL_rule wsL_rule rm_L_rule (va_Pc [.ref (a 0), .int x1, .int x2, .ref ao] (fun U => (U.heap.size = sz ∧ va_P (dC, dI) vwCl (cO cI cZ cL a ao S g) U.heap ∧ va_K (dC, dI) vwCl (tL cI cZ cL) U ∧ va_D (fun _ => True) (cO cI cZ cL a ao S g)) ∧ exE (va_A (cO cI cZ cL a ao S g) sz) U)) (va_Qi (fun (r : Int32) (u : St × (Nat → Int64)) => r = kx (rs_X7_rule S x1 x2).1 ∧ u = ((rs_X7_rule S x1 x2).2.2, oG (rs_X7_rule S x1 x2) g)) (fun u t => va_P (dC, dI) vwCl (cO cI cZ cL a ao u.1 u.2) t.heap ∧ va_K (dC, dI) vwCl (tL cI cZ cL) t ∧ va_D (va_A (cO cI cZ cL a ao S g) sz) (cO cI cZ cL a ao u.1 u.2)) (va_A (cO cI cZ cL a ao S g) sz)) 1 6 (va_A (cO cI cZ cL a ao S g) sz) := by
  refine va_MetW (cc := cL_rule) (maxL := 5) (ret := (some .int)) (hh := [(0, 10, 13, 13), (0, 10, 17, 15)]) (by decide) rfl ?_
  intro p e s m args below meth c s₁ B hml hv
  obtain ⟨rfl, ⟨hsz, hP, hK, hD0⟩, hex⟩ := hv
  have hx := B.exec
  have hb := B.bytes
  have hr := B.returns
  have hts := atoms_spec (ws := wsL_rule) B.pre
  have hown : s.vm.findClass RL = some m.cls := findClass_of_methodNamed B.named
  have hlocks := B.notSynchronized
  subst hsz
  have hD := hD0.self (sz := s.heap.size)
  generalize hAe : va_A (cO cI cZ cL a ao S g) s.heap.size = A at hD hex ⊢
  have hA : ∀ q : Nat, s.heap.size ≤ q → A q := fun q h => by rw [← hAe]; exact Or.inr h
  have hS : va_S A s.heap s.heap [] := va_S.rf
  have htab := vx_table (x := yL_rule) (hh := [(0, 10, 13, 13), (0, 10, 17, 15)]) B (hts (.codeWith yL_rule cL_rule 5 (some .int) [(0, 10, 13, 13), (0, 10, 17, 15)]) List.mem_cons_self)
  have hl := lv_entry ([.ref (a 0), .int x1, .int x2, .ref ao]) (n := 5) (Nat.le_of_ble_eq_true rfl)
  rw [lg_entry_eq]
  generalize (lg_sl ([.ref (a 0), .int x1, .int x2, .ref ao]) ++ List.replicate (5 - (lg_sl ([.ref (a 0), .int x1, .int x2, .ref ao])).length) Slot.unset).toArray = ls at hl ⊢
  have hl : lv_has ls 5 [(0, .ref (a 0)), (1, .int x1), (2, .int x2), (3, .ref ao)] := hl
  generalize hH0 : s.heap = H at hP ⊢
  have hS : va_S A s.heap H [] := by rw [← hH0]; exact va_S.rf
  refine lv_aload_n hx hb dL_rule_0 rfl (lv_at hl 3 rfl) ?_
  refine lv_iconst (v := 0) hx hb dL_rule_1 (by decide) ?_
  refine lv_aload_n hx hb dL_rule_2 rfl (lv_at hl 0 rfl) ?_
  refine lv_iload_n hx hb dL_rule_3 rfl (lv_at hl 1 rfl) ?_
  refine lv_iload_n hx hb dL_rule_4 rfl (lv_at hl 2 rfl) ?_
  have hPc := hP.sub (ws' := cW cI cZ a S) [0, 1, 2, 3, 4, 5, 6, 7, 8, 9, 10, 11, 12, 13, 14, 15, 16, 17, 18, 19, 20, 21, 22, 23, 24, 25, 26, 27] rfl
  have hDc := hD.sub (ws' := cW cI cZ a S) [0, 1, 2, 3, 4, 5, 6, 7, 8, 9, 10, 11, 12, 13, 14, 15, 16, 17, 18, 19, 20, 21, 22, 23, 24, 25, 26, 27] (by decide) rfl
  have hKc := hK.sub (tys' := tI cI cZ) [0, 1] rfl
  have hFc := va_free (wc := cW cI cZ a S) hD hS hA [0, 1, 2, 3, 4, 5, 6, 7, 8, 9, 10, 11, 12, 13, 14, 15, 16, 17, 18, 19, 20, 21, 22, 23, 24, 25, 26, 27] rfl
  refine vx_calli (vx_runV (As := [.int x1, .int x2]) (rest := [.int 0, .ref ao]) ⟨hx, hb, hml, hown, hts⟩ (c_X7_rule l htr dC dI cI cZ a H.size S x1 x2 hok) (cwV 2 hts gL_rule_X7_rule rfl rfl rfl (by decide +kernel) ⟨Nat.le_of_ble_eq_true rfl, Nat.le_of_ble_eq_true rfl⟩) ⟨wBx, va_recv hKc hPc (ci := 6) (q0 := 0) rfl rfl, fun U hU hW => ⟨rfl, ⟨by rw [hU], by rw [hU]; exact hPc, va_K.moved hW.alike hKc, hDc.weaken (fun _ _ _ _ => trivial)⟩, hex.mv hW hU hS.2.1 hFc⟩⟩ rfl rfl hl.1 rfl (lv_room (Nat.le_of_ble_eq_true rfl)) dL_rule_5 ⟨Nat.le_of_ble_eq_true rfl, Nat.le_of_ble_eq_true rfl⟩) hS (fun q _ h => hFc q h) hFc (fun q _ h => hFc q h) (fun E ce q9 u t H1 locs ht hvm hpx hBX hz1 hk1 hS hce hcv hcl => ?_) (fun r u t H1 locs ht hvm hw hB hz1 hk1 hS => ?_)
  · obtain ⟨hE, hZ, hP1, hK1, hD1⟩ := hBX
    have e1 : exK E = (rs_X7_rule S x1 x2).1 := congrArg Prod.fst hZ
    have e2 : u = (rs_X7_rule S x1 x2).2.2 := congrArg (fun z => z.2.2) hZ
    rw [ht] at hP1
    obtain ⟨hP, hD⟩ := va_join (wr := [(ao, .inl (cL, 1, .inr (.inl g)))]) (w1 := cW cI cZ a u) hP hD [0, 1, 2, 3, 4, 5, 6, 7, 8, 9, 10, 11, 12, 13, 14, 15, 16, 17, 18, 19, 20, 21, 22, 23, 24, 25, 26, 27] [28] rfl rfl (by decide) (by decide) hk1 hFc hP1 hD1
    have hP := hP.sub (ws' := cO cI cZ cL a ao u g) [1, 2, 3, 4, 5, 6, 7, 8, 9, 10, 11, 12, 13, 14, 15, 16, 17, 18, 19, 20, 21, 22, 23, 24, 25, 26, 27, 28, 0] rfl
    have hD := hD.sub (ws' := cO cI cZ cL a ao u g) [1, 2, 3, 4, 5, 6, 7, 8, 9, 10, 11, 12, 13, 14, 15, 16, 17, 18, 19, 20, 21, 22, 23, 24, 25, 26, 27, 28, 0] (by decide) rfl
    have kd := kd_rule S x1 x2
    rcases ex3 hE with rfl | rfl | rfl
    · have ez : (rs_X7_rule S x1 x2).1 = 1 := e1.symm.trans (by decide)
      refine ct_catch (name := "java/lang/IllegalArgumentException") hown [] ⟨0, 10, 13, 13⟩ [⟨0, 10, 17, 15⟩] (by rw [htab]; rfl) (fun z h => nomatch h) (by decide) (by decide) (hts (.classLink RL 13 "java/lang/IllegalArgumentException") (by decide +kernel)) (va_Nw.use rfl (hex.2.2.2.1 "java/lang/IllegalArgumentException" (by decide))) hce hcv hcl ?_
      refine lv_astore (lv' := [(4, .ref q9), (0, .ref (a 0)), (1, .int x1), (2, .int x2), (3, .ref ao)]) hx hb dL_rule_13 hl (by decide) rfl (fun ls hl => ?_)
      refine lv_iconst (v := 1) hx hb dL_rule_15 (by decide) ?_
      exact W.iret (v := 1) hx hb hr (fun t ht hW => ⟨⟨1, (u, g), rfl, ⟨by rw [ez]; decide, by rw [← e2]; unfold oG; rw [if_neg (by rw [ez]; decide)]⟩, by rw [ht]; exact hP, va_K.moved hW.alike hK, hD⟩, hS.F ht⟩) hS.2.2 dL_rule_16 hlocks
    · have ez : (rs_X7_rule S x1 x2).1 = 2 := e1.symm.trans (by decide)
      refine ct_catch (name := "java/lang/IllegalStateException") hown [⟨0, 10, 13, 13⟩] ⟨0, 10, 17, 15⟩ [] (by rw [htab]; rfl) (fun z h => by rw [List.mem_singleton.mp h]; exact Or.inr ⟨by decide, "java/lang/IllegalArgumentException", hts (.classLink RL 13 "java/lang/IllegalArgumentException") (by decide +kernel), hex.2.2.2.2.2⟩) (by decide) (by decide) (hts (.classLink RL 15 "java/lang/IllegalStateException") (by decide +kernel)) (va_Nw.use rfl (hex.2.2.2.1 "java/lang/IllegalStateException" (by decide))) hce hcv hcl ?_
      refine lv_astore (lv' := [(4, .ref q9), (0, .ref (a 0)), (1, .int x1), (2, .int x2), (3, .ref ao)]) hx hb dL_rule_17 hl (by decide) rfl (fun ls hl => ?_)
      refine lv_iconst (v := 2) hx hb dL_rule_19 (by decide) ?_
      exact W.iret (v := 2) hx hb hr (fun t ht hW => ⟨⟨2, (u, g), rfl, ⟨by rw [ez]; decide, by rw [← e2]; unfold oG; rw [if_neg (by rw [ez]; decide)]⟩, by rw [ht]; exact hP, va_K.moved hW.alike hK, hD⟩, hS.F ht⟩) hS.2.2 dL_rule_20 hlocks
    · exact absurd kd (by rw [← e1]; decide)
  · obtain ⟨hP1, hK1, hD1⟩ := hB
    have e0 : (rs_X7_rule S x1 x2).1 = 0 := (congrArg Prod.fst hw).symm
    have e1 : r = (rs_X7_rule S x1 x2).2.1 := congrArg (fun z => z.2.1) hw
    have e2 : u = (rs_X7_rule S x1 x2).2.2 := congrArg (fun z => z.2.2) hw
    rw [ht] at hP1
    obtain ⟨hP, hD⟩ := va_join (wr := [(ao, .inl (cL, 1, .inr (.inl g)))]) (w1 := cW cI cZ a u) hP hD [0, 1, 2, 3, 4, 5, 6, 7, 8, 9, 10, 11, 12, 13, 14, 15, 16, 17, 18, 19, 20, 21, 22, 23, 24, 25, 26, 27] [28] rfl rfl (by decide) (by decide) hk1 hFc hP1 hD1
    have hP := hP.sub (ws' := cO cI cZ cL a ao u g) [1, 2, 3, 4, 5, 6, 7, 8, 9, 10, 11, 12, 13, 14, 15, 16, 17, 18, 19, 20, 21, 22, 23, 24, 25, 26, 27, 28, 0] rfl
    have hD := hD.sub (ws' := cO cI cZ cL a ao u g) [1, 2, 3, 4, 5, 6, 7, 8, 9, 10, 11, 12, 13, 14, 15, 16, 17, 18, 19, 20, 21, 22, 23, 24, 25, 26, 27, 28, 0] (by decide) rfl
    generalize H1 = H at hP hS ⊢
    refine lv_i2l hx hb dL_rule_8 rfl ?_
    refine va_last hx hb hK hP hD hS 28 2 rfl rfl (show vp_in 0 1 by unfold vp_in; decide) dL_rule_9 (fun H locs hP hD hS => ?_)
    have hP : va_P (dC, dI) vwCl (cO cI cZ cL a ao u (vp_updL g 0 r.toInt64)) H := hP
    have hD : va_D A (cO cI cZ cL a ao u (vp_updL g 0 r.toInt64)) := hD
    refine lv_goto (tgt := 21) hx hb dL_rule_10 (by decide) ?_
    refine lv_iconst (v := 0) hx hb dL_rule_21 (by decide) ?_
    exact W.iret (v := 0) hx hb hr (fun t ht hW => ⟨⟨0, (u, vp_updL g 0 r.toInt64), rfl, ⟨by rw [e0]; decide, by rw [← e2]; unfold oG; rw [if_pos e0, ← e1]⟩, by rw [ht]; exact hP, va_K.moved hW.alike hK, hD⟩, hS.F ht⟩) hS.2.2 dL_rule_22 hlocks
abbrev rm_L_operation : Room := { frames := 7, cells := 1, slots := 6, locals := 105 }
set_option maxHeartbeats 4000000 in
set_option maxRecDepth 100000 in
theorem c_L_operation (l : Launch) (htr : l.stackTraces = false) (dC : Nat → ClassId) (dI : Nat → Nat → Nat) (cI cZ cL : ClassId) (a : Nat → Nat) (ao : Nat) (sz : Nat) (S : St) (g : Nat → Int64) (x1 x2 x3 : Int32) (hok : ok_X7_operation S x1 x2 x3) : Met l yL_operation wsL_operation rm_L_operation (va_Pc [.ref (a 0), .int x1, .int x2, .int x3, .ref ao] (fun U => (U.heap.size = sz ∧ va_P (dC, dI) vwCl (cO cI cZ cL a ao S g) U.heap ∧ va_K (dC, dI) vwCl (tL cI cZ cL) U ∧ va_D (fun _ => True) (cO cI cZ cL a ao S g)) ∧ exE (va_A (cO cI cZ cL a ao S g) sz) U)) (va_Qi (fun (r : Int32) (u : St × (Nat → Int64)) => r = kx (rs_X7_operation S x1 x2 x3).1 ∧ u = ((rs_X7_operation S x1 x2 x3).2.2, oG (rs_X7_operation S x1 x2 x3) g)) (fun u t => va_P (dC, dI) vwCl (cO cI cZ cL a ao u.1 u.2) t.heap ∧ va_K (dC, dI) vwCl (tL cI cZ cL) t ∧ va_D (va_A (cO cI cZ cL a ao S g) sz) (cO cI cZ cL a ao u.1 u.2)) (va_A (cO cI cZ cL a ao S g) sz)) 1 6 (va_A (cO cI cZ cL a ao S g) sz) := by
  refine va_MetW (cc := cL_operation) (maxL := 6) (ret := (some .int)) (hh := [(0, 12, 15, 13), (0, 12, 19, 15)]) (by decide) rfl ?_
  intro p e s m args below meth c s₁ B hml hv
  obtain ⟨rfl, ⟨hsz, hP, hK, hD0⟩, hex⟩ := hv
  have hx := B.exec
  have hb := B.bytes
  have hr := B.returns
  have hts := atoms_spec (ws := wsL_operation) B.pre
  have hown : s.vm.findClass RL = some m.cls := findClass_of_methodNamed B.named
  have hlocks := B.notSynchronized
  subst hsz
  have hD := hD0.self (sz := s.heap.size)
  generalize hAe : va_A (cO cI cZ cL a ao S g) s.heap.size = A at hD hex ⊢
  have hA : ∀ q : Nat, s.heap.size ≤ q → A q := fun q h => by rw [← hAe]; exact Or.inr h
  have hS : va_S A s.heap s.heap [] := va_S.rf
  have htab := vx_table (x := yL_operation) (hh := [(0, 12, 15, 13), (0, 12, 19, 15)]) B (hts (.codeWith yL_operation cL_operation 6 (some .int) [(0, 12, 15, 13), (0, 12, 19, 15)]) List.mem_cons_self)
  have hl := lv_entry ([.ref (a 0), .int x1, .int x2, .int x3, .ref ao]) (n := 6) (Nat.le_of_ble_eq_true rfl)
  rw [lg_entry_eq]
  generalize (lg_sl ([.ref (a 0), .int x1, .int x2, .int x3, .ref ao]) ++ List.replicate (6 - (lg_sl ([.ref (a 0), .int x1, .int x2, .int x3, .ref ao])).length) Slot.unset).toArray = ls at hl ⊢
  have hl : lv_has ls 6 [(0, .ref (a 0)), (1, .int x1), (2, .int x2), (3, .int x3), (4, .ref ao)] := hl
  generalize hH0 : s.heap = H at hP ⊢
  have hS : va_S A s.heap H [] := by rw [← hH0]; exact va_S.rf
  refine lv_aload hx hb dL_operation_0 (lv_at hl 4 rfl) ?_
  refine lv_iconst (v := 0) hx hb dL_operation_2 (by decide) ?_
  refine lv_aload_n hx hb dL_operation_3 rfl (lv_at hl 0 rfl) ?_
  refine lv_iload_n hx hb dL_operation_4 rfl (lv_at hl 1 rfl) ?_
  refine lv_iload_n hx hb dL_operation_5 rfl (lv_at hl 2 rfl) ?_
  refine lv_iload_n hx hb dL_operation_6 rfl (lv_at hl 3 rfl) ?_
  have hPc := hP.sub (ws' := cW cI cZ a S) [0, 1, 2, 3, 4, 5, 6, 7, 8, 9, 10, 11, 12, 13, 14, 15, 16, 17, 18, 19, 20, 21, 22, 23, 24, 25, 26, 27] rfl
  have hDc := hD.sub (ws' := cW cI cZ a S) [0, 1, 2, 3, 4, 5, 6, 7, 8, 9, 10, 11, 12, 13, 14, 15, 16, 17, 18, 19, 20, 21, 22, 23, 24, 25, 26, 27] (by decide) rfl
  have hKc := hK.sub (tys' := tI cI cZ) [0, 1] rfl
  have hFc := va_free (wc := cW cI cZ a S) hD hS hA [0, 1, 2, 3, 4, 5, 6, 7, 8, 9, 10, 11, 12, 13, 14, 15, 16, 17, 18, 19, 20, 21, 22, 23, 24, 25, 26, 27] rfl
  refine vx_calli (vx_runV (As := [.int x1, .int x2, .int x3]) (rest := [.int 0, .ref ao]) ⟨hx, hb, hml, hown, hts⟩ (c_X7_operation l htr dC dI cI cZ a H.size S x1 x2 x3 hok) (cwV 3 hts gL_operation_X7_operation rfl rfl rfl (by decide +kernel) ⟨Nat.le_of_ble_eq_true rfl, Nat.le_of_ble_eq_true rfl⟩) ⟨wBx, va_recv hKc hPc (ci := 6) (q0 := 0) rfl rfl, fun U hU hW => ⟨rfl, ⟨by rw [hU], by rw [hU]; exact hPc, va_K.moved hW.alike hKc, hDc.weaken (fun _ _ _ _ => trivial)⟩, hex.mv hW hU hS.2.1 hFc⟩⟩ rfl rfl hl.1 rfl (lv_room (Nat.le_of_ble_eq_true rfl)) dL_operation_7 ⟨Nat.le_of_ble_eq_true rfl, Nat.le_of_ble_eq_true rfl⟩) hS (fun q _ h => hFc q h) hFc (fun q _ h => hFc q h) (fun E ce q9 u t H1 locs ht hvm hpx hBX hz1 hk1 hS hce hcv hcl => ?_) (fun r u t H1 locs ht hvm hw hB hz1 hk1 hS => ?_)
  · obtain ⟨hE, hZ, hP1, hK1, hD1⟩ := hBX
    have e1 : exK E = (rs_X7_operation S x1 x2 x3).1 := congrArg Prod.fst hZ
    have e2 : u = (rs_X7_operation S x1 x2 x3).2.2 := congrArg (fun z => z.2.2) hZ
    rw [ht] at hP1
    obtain ⟨hP, hD⟩ := va_join (wr := [(ao, .inl (cL, 1, .inr (.inl g)))]) (w1 := cW cI cZ a u) hP hD [0, 1, 2, 3, 4, 5, 6, 7, 8, 9, 10, 11, 12, 13, 14, 15, 16, 17, 18, 19, 20, 21, 22, 23, 24, 25, 26, 27] [28] rfl rfl (by decide) (by decide) hk1 hFc hP1 hD1
    have hP := hP.sub (ws' := cO cI cZ cL a ao u g) [1, 2, 3, 4, 5, 6, 7, 8, 9, 10, 11, 12, 13, 14, 15, 16, 17, 18, 19, 20, 21, 22, 23, 24, 25, 26, 27, 28, 0] rfl
    have hD := hD.sub (ws' := cO cI cZ cL a ao u g) [1, 2, 3, 4, 5, 6, 7, 8, 9, 10, 11, 12, 13, 14, 15, 16, 17, 18, 19, 20, 21, 22, 23, 24, 25, 26, 27, 28, 0] (by decide) rfl
    have kd := kd_operation S x1 x2 x3
    rcases ex3 hE with rfl | rfl | rfl
    · have ez : (rs_X7_operation S x1 x2 x3).1 = 1 := e1.symm.trans (by decide)
      refine ct_catch (name := "java/lang/IllegalArgumentException") hown [] ⟨0, 12, 15, 13⟩ [⟨0, 12, 19, 15⟩] (by rw [htab]; rfl) (fun z h => nomatch h) (by decide) (by decide) (hts (.classLink RL 13 "java/lang/IllegalArgumentException") (by decide +kernel)) (va_Nw.use rfl (hex.2.2.2.1 "java/lang/IllegalArgumentException" (by decide))) hce hcv hcl ?_
      refine lv_astore (lv' := [(5, .ref q9), (0, .ref (a 0)), (1, .int x1), (2, .int x2), (3, .int x3), (4, .ref ao)]) hx hb dL_operation_15 hl (by decide) rfl (fun ls hl => ?_)
      refine lv_iconst (v := 1) hx hb dL_operation_17 (by decide) ?_
      exact W.iret (v := 1) hx hb hr (fun t ht hW => ⟨⟨1, (u, g), rfl, ⟨by rw [ez]; decide, by rw [← e2]; unfold oG; rw [if_neg (by rw [ez]; decide)]⟩, by rw [ht]; exact hP, va_K.moved hW.alike hK, hD⟩, hS.F ht⟩) hS.2.2 dL_operation_18 hlocks
    · have ez : (rs_X7_operation S x1 x2 x3).1 = 2 := e1.symm.trans (by decide)
      refine ct_catch (name := "java/lang/IllegalStateException") hown [⟨0, 12, 15, 13⟩] ⟨0, 12, 19, 15⟩ [] (by rw [htab]; rfl) (fun z h => by rw [List.mem_singleton.mp h]; exact Or.inr ⟨by decide, "java/lang/IllegalArgumentException", hts (.classLink RL 13 "java/lang/IllegalArgumentException") (by decide +kernel), hex.2.2.2.2.2⟩) (by decide) (by decide) (hts (.classLink RL 15 "java/lang/IllegalStateException") (by decide +kernel)) (va_Nw.use rfl (hex.2.2.2.1 "java/lang/IllegalStateException" (by decide))) hce hcv hcl ?_
      refine lv_astore (lv' := [(5, .ref q9), (0, .ref (a 0)), (1, .int x1), (2, .int x2), (3, .int x3), (4, .ref ao)]) hx hb dL_operation_19 hl (by decide) rfl (fun ls hl => ?_)
      refine lv_iconst (v := 2) hx hb dL_operation_21 (by decide) ?_
      exact W.iret (v := 2) hx hb hr (fun t ht hW => ⟨⟨2, (u, g), rfl, ⟨by rw [ez]; decide, by rw [← e2]; unfold oG; rw [if_neg (by rw [ez]; decide)]⟩, by rw [ht]; exact hP, va_K.moved hW.alike hK, hD⟩, hS.F ht⟩) hS.2.2 dL_operation_22 hlocks
    · exact absurd kd (by rw [← e1]; decide)
  · obtain ⟨hP1, hK1, hD1⟩ := hB
    have e0 : (rs_X7_operation S x1 x2 x3).1 = 0 := (congrArg Prod.fst hw).symm
    have e1 : r = (rs_X7_operation S x1 x2 x3).2.1 := congrArg (fun z => z.2.1) hw
    have e2 : u = (rs_X7_operation S x1 x2 x3).2.2 := congrArg (fun z => z.2.2) hw
    rw [ht] at hP1
    obtain ⟨hP, hD⟩ := va_join (wr := [(ao, .inl (cL, 1, .inr (.inl g)))]) (w1 := cW cI cZ a u) hP hD [0, 1, 2, 3, 4, 5, 6, 7, 8, 9, 10, 11, 12, 13, 14, 15, 16, 17, 18, 19, 20, 21, 22, 23, 24, 25, 26, 27] [28] rfl rfl (by decide) (by decide) hk1 hFc hP1 hD1
    have hP := hP.sub (ws' := cO cI cZ cL a ao u g) [1, 2, 3, 4, 5, 6, 7, 8, 9, 10, 11, 12, 13, 14, 15, 16, 17, 18, 19, 20, 21, 22, 23, 24, 25, 26, 27, 28, 0] rfl
    have hD := hD.sub (ws' := cO cI cZ cL a ao u g) [1, 2, 3, 4, 5, 6, 7, 8, 9, 10, 11, 12, 13, 14, 15, 16, 17, 18, 19, 20, 21, 22, 23, 24, 25, 26, 27, 28, 0] (by decide) rfl
    generalize H1 = H at hP hS ⊢
    refine lv_i2l hx hb dL_operation_10 rfl ?_
    refine va_last hx hb hK hP hD hS 28 2 rfl rfl (show vp_in 0 1 by unfold vp_in; decide) dL_operation_11 (fun H locs hP hD hS => ?_)
    have hP : va_P (dC, dI) vwCl (cO cI cZ cL a ao u (vp_updL g 0 r.toInt64)) H := hP
    have hD : va_D A (cO cI cZ cL a ao u (vp_updL g 0 r.toInt64)) := hD
    refine lv_goto (tgt := 23) hx hb dL_operation_12 (by decide) ?_
    refine lv_iconst (v := 0) hx hb dL_operation_23 (by decide) ?_
    exact W.iret (v := 0) hx hb hr (fun t ht hW => ⟨⟨0, (u, vp_updL g 0 r.toInt64), rfl, ⟨by rw [e0]; decide, by rw [← e2]; unfold oG; rw [if_pos e0, ← e1]⟩, by rw [ht]; exact hP, va_K.moved hW.alike hK, hD⟩, hS.F ht⟩) hS.2.2 dL_operation_24 hlocks
abbrev rm_L_ask : Room := { frames := 7, cells := 1, slots := 6, locals := 167 }
set_option maxHeartbeats 4000000 in
set_option maxRecDepth 100000 in
theorem c_L_ask (l : Launch) (htr : l.stackTraces = false) (dC : Nat → ClassId) (dI : Nat → Nat → Nat) (cI cZ cL : ClassId) (a : Nat → Nat) (ao : Nat) (sz : Nat) (S : St) (g : Nat → Int64) (x1 : Int32) (hok : ok_X7_ask S x1) : Met l yL_ask wsL_ask rm_L_ask (va_Pc [.ref (a 0), .int x1, .ref ao] (fun U => (U.heap.size = sz ∧ va_P (dC, dI) vwCl (cO cI cZ cL a ao S g) U.heap ∧ va_K (dC, dI) vwCl (tL cI cZ cL) U ∧ va_D (fun _ => True) (cO cI cZ cL a ao S g)) ∧ exE (va_A (cO cI cZ cL a ao S g) sz) U)) (va_Qi (fun (r : Int32) (u : St × (Nat → Int64)) => r = kx (rs_X7_ask S x1).1 ∧ u = ((rs_X7_ask S x1).2.2, oG (rs_X7_ask S x1) g)) (fun u t => va_P (dC, dI) vwCl (cO cI cZ cL a ao u.1 u.2) t.heap ∧ va_K (dC, dI) vwCl (tL cI cZ cL) t ∧ va_D (va_A (cO cI cZ cL a ao S g) sz) (cO cI cZ cL a ao u.1 u.2)) (va_A (cO cI cZ cL a ao S g) sz)) 1 6 (va_A (cO cI cZ cL a ao S g) sz) := by
  refine va_MetW (cc := cL_ask) (maxL := 4) (ret := (some .int)) (hh := [(0, 9, 12, 13), (0, 9, 15, 15)]) (by decide) rfl ?_
  intro p e s m args below meth c s₁ B hml hv
  obtain ⟨rfl, ⟨hsz, hP, hK, hD0⟩, hex⟩ := hv
  have hx := B.exec
  have hb := B.bytes
  have hr := B.returns
  have hts := atoms_spec (ws := wsL_ask) B.pre
  have hown : s.vm.findClass RL = some m.cls := findClass_of_methodNamed B.named
  have hlocks := B.notSynchronized
  subst hsz
  have hD := hD0.self (sz := s.heap.size)
  generalize hAe : va_A (cO cI cZ cL a ao S g) s.heap.size = A at hD hex ⊢
  have hA : ∀ q : Nat, s.heap.size ≤ q → A q := fun q h => by rw [← hAe]; exact Or.inr h
  have hS : va_S A s.heap s.heap [] := va_S.rf
  have htab := vx_table (x := yL_ask) (hh := [(0, 9, 12, 13), (0, 9, 15, 15)]) B (hts (.codeWith yL_ask cL_ask 4 (some .int) [(0, 9, 12, 13), (0, 9, 15, 15)]) List.mem_cons_self)
  have hl := lv_entry ([.ref (a 0), .int x1, .ref ao]) (n := 4) (Nat.le_of_ble_eq_true rfl)
  rw [lg_entry_eq]
  generalize (lg_sl ([.ref (a 0), .int x1, .ref ao]) ++ List.replicate (4 - (lg_sl ([.ref (a 0), .int x1, .ref ao])).length) Slot.unset).toArray = ls at hl ⊢
  have hl : lv_has ls 4 [(0, .ref (a 0)), (1, .int x1), (2, .ref ao)] := hl
  generalize hH0 : s.heap = H at hP ⊢
  have hS : va_S A s.heap H [] := by rw [← hH0]; exact va_S.rf
  refine lv_aload_n hx hb dL_ask_0 rfl (lv_at hl 2 rfl) ?_
  refine lv_iconst (v := 0) hx hb dL_ask_1 (by decide) ?_
  refine lv_aload_n hx hb dL_ask_2 rfl (lv_at hl 0 rfl) ?_
  refine lv_iload_n hx hb dL_ask_3 rfl (lv_at hl 1 rfl) ?_
  have hPc := hP.sub (ws' := cW cI cZ a S) [0, 1, 2, 3, 4, 5, 6, 7, 8, 9, 10, 11, 12, 13, 14, 15, 16, 17, 18, 19, 20, 21, 22, 23, 24, 25, 26, 27] rfl
  have hDc := hD.sub (ws' := cW cI cZ a S) [0, 1, 2, 3, 4, 5, 6, 7, 8, 9, 10, 11, 12, 13, 14, 15, 16, 17, 18, 19, 20, 21, 22, 23, 24, 25, 26, 27] (by decide) rfl
  have hKc := hK.sub (tys' := tI cI cZ) [0, 1] rfl
  have hFc := va_free (wc := cW cI cZ a S) hD hS hA [0, 1, 2, 3, 4, 5, 6, 7, 8, 9, 10, 11, 12, 13, 14, 15, 16, 17, 18, 19, 20, 21, 22, 23, 24, 25, 26, 27] rfl
  refine vx_calli (vx_runV (As := [.int x1]) (rest := [.int 0, .ref ao]) ⟨hx, hb, hml, hown, hts⟩ (c_X7_ask l htr dC dI cI cZ a H.size S x1 hok) (cwV 1 hts gL_ask_X7_ask rfl rfl rfl (by decide +kernel) ⟨Nat.le_of_ble_eq_true rfl, Nat.le_of_ble_eq_true rfl⟩) ⟨wBx, va_recv hKc hPc (ci := 6) (q0 := 0) rfl rfl, fun U hU hW => ⟨rfl, ⟨by rw [hU], by rw [hU]; exact hPc, va_K.moved hW.alike hKc, hDc.weaken (fun _ _ _ _ => trivial)⟩, hex.mv hW hU hS.2.1 hFc⟩⟩ rfl rfl hl.1 rfl (lv_room (Nat.le_of_ble_eq_true rfl)) dL_ask_4 ⟨Nat.le_of_ble_eq_true rfl, Nat.le_of_ble_eq_true rfl⟩) hS (fun q _ h => hFc q h) hFc (fun q _ h => hFc q h) (fun E ce q9 u t H1 locs ht hvm hpx hBX hz1 hk1 hS hce hcv hcl => ?_) (fun r u t H1 locs ht hvm hw hB hz1 hk1 hS => ?_)
  · obtain ⟨hE, hZ, hP1, hK1, hD1⟩ := hBX
    have e1 : exK E = (rs_X7_ask S x1).1 := congrArg Prod.fst hZ
    have e2 : u = (rs_X7_ask S x1).2.2 := congrArg (fun z => z.2.2) hZ
    rw [ht] at hP1
    obtain ⟨hP, hD⟩ := va_join (wr := [(ao, .inl (cL, 1, .inr (.inl g)))]) (w1 := cW cI cZ a u) hP hD [0, 1, 2, 3, 4, 5, 6, 7, 8, 9, 10, 11, 12, 13, 14, 15, 16, 17, 18, 19, 20, 21, 22, 23, 24, 25, 26, 27] [28] rfl rfl (by decide) (by decide) hk1 hFc hP1 hD1
    have hP := hP.sub (ws' := cO cI cZ cL a ao u g) [1, 2, 3, 4, 5, 6, 7, 8, 9, 10, 11, 12, 13, 14, 15, 16, 17, 18, 19, 20, 21, 22, 23, 24, 25, 26, 27, 28, 0] rfl
    have hD := hD.sub (ws' := cO cI cZ cL a ao u g) [1, 2, 3, 4, 5, 6, 7, 8, 9, 10, 11, 12, 13, 14, 15, 16, 17, 18, 19, 20, 21, 22, 23, 24, 25, 26, 27, 28, 0] (by decide) rfl
    have kd := kd_ask S x1
    rcases ex3 hE with rfl | rfl | rfl
    · have ez : (rs_X7_ask S x1).1 = 1 := e1.symm.trans (by decide)
      refine ct_catch (name := "java/lang/IllegalArgumentException") hown [] ⟨0, 9, 12, 13⟩ [⟨0, 9, 15, 15⟩] (by rw [htab]; rfl) (fun z h => nomatch h) (by decide) (by decide) (hts (.classLink RL 13 "java/lang/IllegalArgumentException") (by decide +kernel)) (va_Nw.use rfl (hex.2.2.2.1 "java/lang/IllegalArgumentException" (by decide))) hce hcv hcl ?_
      refine lv_astore_n (lv' := [(3, .ref q9), (0, .ref (a 0)), (1, .int x1), (2, .ref ao)]) hx hb dL_ask_12 rfl hl (by decide) rfl (fun ls hl => ?_)
      refine lv_iconst (v := 1) hx hb dL_ask_13 (by decide) ?_
      exact W.iret (v := 1) hx hb hr (fun t ht hW => ⟨⟨1, (u, g), rfl, ⟨by rw [ez]; decide, by rw [← e2]; unfold oG; rw [if_neg (by rw [ez]; decide)]⟩, by rw [ht]; exact hP, va_K.moved hW.alike hK, hD⟩, hS.F ht⟩) hS.2.2 dL_ask_14 hlocks
    · have ez : (rs_X7_ask S x1).1 = 2 := e1.symm.trans (by decide)
      refine ct_catch (name := "java/lang/IllegalStateException") hown [⟨0, 9, 12, 13⟩] ⟨0, 9, 15, 15⟩ [] (by rw [htab]; rfl) (fun z h => by rw [List.mem_singleton.mp h]; exact Or.inr ⟨by decide, "java/lang/IllegalArgumentException", hts (.classLink RL 13 "java/lang/IllegalArgumentException") (by decide +kernel), hex.2.2.2.2.2⟩) (by decide) (by decide) (hts (.classLink RL 15 "java/lang/IllegalStateException") (by decide +kernel)) (va_Nw.use rfl (hex.2.2.2.1 "java/lang/IllegalStateException" (by decide))) hce hcv hcl ?_
      refine lv_astore_n (lv' := [(3, .ref q9), (0, .ref (a 0)), (1, .int x1), (2, .ref ao)]) hx hb dL_ask_15 rfl hl (by decide) rfl (fun ls hl => ?_)
      refine lv_iconst (v := 2) hx hb dL_ask_16 (by decide) ?_
      exact W.iret (v := 2) hx hb hr (fun t ht hW => ⟨⟨2, (u, g), rfl, ⟨by rw [ez]; decide, by rw [← e2]; unfold oG; rw [if_neg (by rw [ez]; decide)]⟩, by rw [ht]; exact hP, va_K.moved hW.alike hK, hD⟩, hS.F ht⟩) hS.2.2 dL_ask_17 hlocks
    · exact absurd kd (by rw [← e1]; decide)
  · obtain ⟨hP1, hK1, hD1⟩ := hB
    have e0 : (rs_X7_ask S x1).1 = 0 := (congrArg Prod.fst hw).symm
    have e1 : r = (rs_X7_ask S x1).2.1 := congrArg (fun z => z.2.1) hw
    have e2 : u = (rs_X7_ask S x1).2.2 := congrArg (fun z => z.2.2) hw
    rw [ht] at hP1
    obtain ⟨hP, hD⟩ := va_join (wr := [(ao, .inl (cL, 1, .inr (.inl g)))]) (w1 := cW cI cZ a u) hP hD [0, 1, 2, 3, 4, 5, 6, 7, 8, 9, 10, 11, 12, 13, 14, 15, 16, 17, 18, 19, 20, 21, 22, 23, 24, 25, 26, 27] [28] rfl rfl (by decide) (by decide) hk1 hFc hP1 hD1
    have hP := hP.sub (ws' := cO cI cZ cL a ao u g) [1, 2, 3, 4, 5, 6, 7, 8, 9, 10, 11, 12, 13, 14, 15, 16, 17, 18, 19, 20, 21, 22, 23, 24, 25, 26, 27, 28, 0] rfl
    have hD := hD.sub (ws' := cO cI cZ cL a ao u g) [1, 2, 3, 4, 5, 6, 7, 8, 9, 10, 11, 12, 13, 14, 15, 16, 17, 18, 19, 20, 21, 22, 23, 24, 25, 26, 27, 28, 0] (by decide) rfl
    generalize H1 = H at hP hS ⊢
    refine lv_i2l hx hb dL_ask_7 rfl ?_
    refine va_last hx hb hK hP hD hS 28 2 rfl rfl (show vp_in 0 1 by unfold vp_in; decide) dL_ask_8 (fun H locs hP hD hS => ?_)
    have hP : va_P (dC, dI) vwCl (cO cI cZ cL a ao u (vp_updL g 0 r.toInt64)) H := hP
    have hD : va_D A (cO cI cZ cL a ao u (vp_updL g 0 r.toInt64)) := hD
    refine lv_goto (tgt := 18) hx hb dL_ask_9 (by decide) ?_
    refine lv_iconst (v := 0) hx hb dL_ask_18 (by decide) ?_
    exact W.iret (v := 0) hx hb hr (fun t ht hW => ⟨⟨0, (u, vp_updL g 0 r.toInt64), rfl, ⟨by rw [e0]; decide, by rw [← e2]; unfold oG; rw [if_pos e0, ← e1]⟩, by rw [ht]; exact hP, va_K.moved hW.alike hK, hD⟩, hS.F ht⟩) hS.2.2 dL_ask_19 hlocks
abbrev rm_L_decide : Room := { frames := 7, cells := 1, slots := 6, locals := 103 }
set_option maxHeartbeats 4000000 in
set_option maxRecDepth 100000 in
theorem c_L_decide (l : Launch) (htr : l.stackTraces = false) (dC : Nat → ClassId) (dI : Nat → Nat → Nat) (cI cZ cL : ClassId) (a : Nat → Nat) (ao : Nat) (sz : Nat) (S : St) (g : Nat → Int64) (x1 : Int32) (hok : ok_X7_decide S x1) : Met l yL_decide wsL_decide rm_L_decide (va_Pc [.ref (a 0), .int x1, .ref ao] (fun U => (U.heap.size = sz ∧ va_P (dC, dI) vwCl (cO cI cZ cL a ao S g) U.heap ∧ va_K (dC, dI) vwCl (tL cI cZ cL) U ∧ va_D (fun _ => True) (cO cI cZ cL a ao S g)) ∧ exE (va_A (cO cI cZ cL a ao S g) sz) U)) (va_Qi (fun (r : Int32) (u : St × (Nat → Int64)) => r = kx (rs_X7_decide S x1).1 ∧ u = ((rs_X7_decide S x1).2.2, oG (rs_X7_decide S x1) g)) (fun u t => va_P (dC, dI) vwCl (cO cI cZ cL a ao u.1 u.2) t.heap ∧ va_K (dC, dI) vwCl (tL cI cZ cL) t ∧ va_D (va_A (cO cI cZ cL a ao S g) sz) (cO cI cZ cL a ao u.1 u.2)) (va_A (cO cI cZ cL a ao S g) sz)) 1 6 (va_A (cO cI cZ cL a ao S g) sz) := by
  refine va_MetW (cc := cL_decide) (maxL := 4) (ret := (some .int)) (hh := [(0, 9, 12, 13)]) (by decide) rfl ?_
  intro p e s m args below meth c s₁ B hml hv
  obtain ⟨rfl, ⟨hsz, hP, hK, hD0⟩, hex⟩ := hv
  have hx := B.exec
  have hb := B.bytes
  have hr := B.returns
  have hts := atoms_spec (ws := wsL_decide) B.pre
  have hown : s.vm.findClass RL = some m.cls := findClass_of_methodNamed B.named
  have hlocks := B.notSynchronized
  subst hsz
  have hD := hD0.self (sz := s.heap.size)
  generalize hAe : va_A (cO cI cZ cL a ao S g) s.heap.size = A at hD hex ⊢
  have hA : ∀ q : Nat, s.heap.size ≤ q → A q := fun q h => by rw [← hAe]; exact Or.inr h
  have hS : va_S A s.heap s.heap [] := va_S.rf
  have htab := vx_table (x := yL_decide) (hh := [(0, 9, 12, 13)]) B (hts (.codeWith yL_decide cL_decide 4 (some .int) [(0, 9, 12, 13)]) List.mem_cons_self)
  have hl := lv_entry ([.ref (a 0), .int x1, .ref ao]) (n := 4) (Nat.le_of_ble_eq_true rfl)
  rw [lg_entry_eq]
  generalize (lg_sl ([.ref (a 0), .int x1, .ref ao]) ++ List.replicate (4 - (lg_sl ([.ref (a 0), .int x1, .ref ao])).length) Slot.unset).toArray = ls at hl ⊢
  have hl : lv_has ls 4 [(0, .ref (a 0)), (1, .int x1), (2, .ref ao)] := hl
  generalize hH0 : s.heap = H at hP ⊢
  have hS : va_S A s.heap H [] := by rw [← hH0]; exact va_S.rf
  refine lv_aload_n hx hb dL_decide_0 rfl (lv_at hl 2 rfl) ?_
  refine lv_iconst (v := 0) hx hb dL_decide_1 (by decide) ?_
  refine lv_aload_n hx hb dL_decide_2 rfl (lv_at hl 0 rfl) ?_
  refine lv_iload_n hx hb dL_decide_3 rfl (lv_at hl 1 rfl) ?_
  have hPc := hP.sub (ws' := cW cI cZ a S) [0, 1, 2, 3, 4, 5, 6, 7, 8, 9, 10, 11, 12, 13, 14, 15, 16, 17, 18, 19, 20, 21, 22, 23, 24, 25, 26, 27] rfl
  have hDc := hD.sub (ws' := cW cI cZ a S) [0, 1, 2, 3, 4, 5, 6, 7, 8, 9, 10, 11, 12, 13, 14, 15, 16, 17, 18, 19, 20, 21, 22, 23, 24, 25, 26, 27] (by decide) rfl
  have hKc := hK.sub (tys' := tI cI cZ) [0, 1] rfl
  have hFc := va_free (wc := cW cI cZ a S) hD hS hA [0, 1, 2, 3, 4, 5, 6, 7, 8, 9, 10, 11, 12, 13, 14, 15, 16, 17, 18, 19, 20, 21, 22, 23, 24, 25, 26, 27] rfl
  refine vx_calli (vx_runV (As := [.int x1]) (rest := [.int 0, .ref ao]) ⟨hx, hb, hml, hown, hts⟩ (c_X7_decide l htr dC dI cI cZ a H.size S x1 hok) (cwV 1 hts gL_decide_X7_decide rfl rfl rfl (by decide +kernel) ⟨Nat.le_of_ble_eq_true rfl, Nat.le_of_ble_eq_true rfl⟩) ⟨wBx, va_recv hKc hPc (ci := 6) (q0 := 0) rfl rfl, fun U hU hW => ⟨rfl, ⟨by rw [hU], by rw [hU]; exact hPc, va_K.moved hW.alike hKc, hDc.weaken (fun _ _ _ _ => trivial)⟩, hex.mv hW hU hS.2.1 hFc⟩⟩ rfl rfl hl.1 rfl (lv_room (Nat.le_of_ble_eq_true rfl)) dL_decide_4 ⟨Nat.le_of_ble_eq_true rfl, Nat.le_of_ble_eq_true rfl⟩) hS (fun q _ h => hFc q h) hFc (fun q _ h => hFc q h) (fun E ce q9 u t H1 locs ht hvm hpx hBX hz1 hk1 hS hce hcv hcl => ?_) (fun r u t H1 locs ht hvm hw hB hz1 hk1 hS => ?_)
  · obtain ⟨hE, hZ, hP1, hK1, hD1⟩ := hBX
    have e1 : exK E = (rs_X7_decide S x1).1 := congrArg Prod.fst hZ
    have e2 : u = (rs_X7_decide S x1).2.2 := congrArg (fun z => z.2.2) hZ
    rw [ht] at hP1
    obtain ⟨hP, hD⟩ := va_join (wr := [(ao, .inl (cL, 1, .inr (.inl g)))]) (w1 := cW cI cZ a u) hP hD [0, 1, 2, 3, 4, 5, 6, 7, 8, 9, 10, 11, 12, 13, 14, 15, 16, 17, 18, 19, 20, 21, 22, 23, 24, 25, 26, 27] [28] rfl rfl (by decide) (by decide) hk1 hFc hP1 hD1
    have hP := hP.sub (ws' := cO cI cZ cL a ao u g) [1, 2, 3, 4, 5, 6, 7, 8, 9, 10, 11, 12, 13, 14, 15, 16, 17, 18, 19, 20, 21, 22, 23, 24, 25, 26, 27, 28, 0] rfl
    have hD := hD.sub (ws' := cO cI cZ cL a ao u g) [1, 2, 3, 4, 5, 6, 7, 8, 9, 10, 11, 12, 13, 14, 15, 16, 17, 18, 19, 20, 21, 22, 23, 24, 25, 26, 27, 28, 0] (by decide) rfl
    have kd := kd_decide S x1
    rcases ex3 hE with rfl | rfl | rfl
    · have ez : (rs_X7_decide S x1).1 = 1 := e1.symm.trans (by decide)
      refine ct_catch (name := "java/lang/IllegalArgumentException") hown [] ⟨0, 9, 12, 13⟩ [] (by rw [htab]; rfl) (fun z h => nomatch h) (by decide) (by decide) (hts (.classLink RL 13 "java/lang/IllegalArgumentException") (by decide +kernel)) (va_Nw.use rfl (hex.2.2.2.1 "java/lang/IllegalArgumentException" (by decide))) hce hcv hcl ?_
      refine lv_astore_n (lv' := [(3, .ref q9), (0, .ref (a 0)), (1, .int x1), (2, .ref ao)]) hx hb dL_decide_12 rfl hl (by decide) rfl (fun ls hl => ?_)
      refine lv_iconst (v := 1) hx hb dL_decide_13 (by decide) ?_
      exact W.iret (v := 1) hx hb hr (fun t ht hW => ⟨⟨1, (u, g), rfl, ⟨by rw [ez]; decide, by rw [← e2]; unfold oG; rw [if_neg (by rw [ez]; decide)]⟩, by rw [ht]; exact hP, va_K.moved hW.alike hK, hD⟩, hS.F ht⟩) hS.2.2 dL_decide_14 hlocks
    · exact absurd kd (by rw [← e1]; decide)
    · exact absurd kd (by rw [← e1]; decide)
  · obtain ⟨hP1, hK1, hD1⟩ := hB
    have e0 : (rs_X7_decide S x1).1 = 0 := (congrArg Prod.fst hw).symm
    have e1 : r = (rs_X7_decide S x1).2.1 := congrArg (fun z => z.2.1) hw
    have e2 : u = (rs_X7_decide S x1).2.2 := congrArg (fun z => z.2.2) hw
    rw [ht] at hP1
    obtain ⟨hP, hD⟩ := va_join (wr := [(ao, .inl (cL, 1, .inr (.inl g)))]) (w1 := cW cI cZ a u) hP hD [0, 1, 2, 3, 4, 5, 6, 7, 8, 9, 10, 11, 12, 13, 14, 15, 16, 17, 18, 19, 20, 21, 22, 23, 24, 25, 26, 27] [28] rfl rfl (by decide) (by decide) hk1 hFc hP1 hD1
    have hP := hP.sub (ws' := cO cI cZ cL a ao u g) [1, 2, 3, 4, 5, 6, 7, 8, 9, 10, 11, 12, 13, 14, 15, 16, 17, 18, 19, 20, 21, 22, 23, 24, 25, 26, 27, 28, 0] rfl
    have hD := hD.sub (ws' := cO cI cZ cL a ao u g) [1, 2, 3, 4, 5, 6, 7, 8, 9, 10, 11, 12, 13, 14, 15, 16, 17, 18, 19, 20, 21, 22, 23, 24, 25, 26, 27, 28, 0] (by decide) rfl
    generalize H1 = H at hP hS ⊢
    refine lv_i2l hx hb dL_decide_7 rfl ?_
    refine va_last hx hb hK hP hD hS 28 2 rfl rfl (show vp_in 0 1 by unfold vp_in; decide) dL_decide_8 (fun H locs hP hD hS => ?_)
    have hP : va_P (dC, dI) vwCl (cO cI cZ cL a ao u (vp_updL g 0 r.toInt64)) H := hP
    have hD : va_D A (cO cI cZ cL a ao u (vp_updL g 0 r.toInt64)) := hD
    refine lv_goto (tgt := 15) hx hb dL_decide_9 (by decide) ?_
    refine lv_iconst (v := 0) hx hb dL_decide_15 (by decide) ?_
    exact W.iret (v := 0) hx hb hr (fun t ht hW => ⟨⟨0, (u, vp_updL g 0 r.toInt64), rfl, ⟨by rw [e0]; decide, by rw [← e2]; unfold oG; rw [if_pos e0, ← e1]⟩, by rw [ht]; exact hP, va_K.moved hW.alike hK, hD⟩, hS.F ht⟩) hS.2.2 dL_decide_16 hlocks
abbrev rm_L_of : Room := { frames := 7, cells := 1, slots := 6, locals := 104 }
set_option maxHeartbeats 4000000 in
set_option maxRecDepth 100000 in
theorem c_L_of (l : Launch) (htr : l.stackTraces = false) (dC : Nat → ClassId) (dI : Nat → Nat → Nat) (cI cZ cL : ClassId) (a : Nat → Nat) (ao : Nat) (sz : Nat) (S : St) (g : Nat → Int64) (x1 x2 : Int32) (hok : ok_X7_of S x1 x2) : Met l yL_of wsL_of rm_L_of (va_Pc [.ref (a 0), .int x1, .int x2, .ref ao] (fun U => (U.heap.size = sz ∧ va_P (dC, dI) vwCl (cO cI cZ cL a ao S g) U.heap ∧ va_K (dC, dI) vwCl (tL cI cZ cL) U ∧ va_D (fun _ => True) (cO cI cZ cL a ao S g)) ∧ exE (va_A (cO cI cZ cL a ao S g) sz) U)) (va_Qi (fun (r : Int32) (u : St × (Nat → Int64)) => r = kx (rs_X7_of S x1 x2).1 ∧ u = ((rs_X7_of S x1 x2).2.2, oG (rs_X7_of S x1 x2) g)) (fun u t => va_P (dC, dI) vwCl (cO cI cZ cL a ao u.1 u.2) t.heap ∧ va_K (dC, dI) vwCl (tL cI cZ cL) t ∧ va_D (va_A (cO cI cZ cL a ao S g) sz) (cO cI cZ cL a ao u.1 u.2)) (va_A (cO cI cZ cL a ao S g) sz)) 1 6 (va_A (cO cI cZ cL a ao S g) sz) := by
  refine va_MetW (cc := cL_of) (maxL := 5) (ret := (some .int)) (hh := [(0, 10, 13, 32)]) (by decide) rfl ?_
  intro p e s m args below meth c s₁ B hml hv
  obtain ⟨rfl, ⟨hsz, hP, hK, hD0⟩, hex⟩ := hv
  have hx := B.exec
  have hb := B.bytes
  have hr := B.returns
  have hts := atoms_spec (ws := wsL_of) B.pre
  have hown : s.vm.findClass RL = some m.cls := findClass_of_methodNamed B.named
  have hlocks := B.notSynchronized
  subst hsz
  have hD := hD0.self (sz := s.heap.size)
  generalize hAe : va_A (cO cI cZ cL a ao S g) s.heap.size = A at hD hex ⊢
  have hA : ∀ q : Nat, s.heap.size ≤ q → A q := fun q h => by rw [← hAe]; exact Or.inr h
  have hS : va_S A s.heap s.heap [] := va_S.rf
  have htab := vx_table (x := yL_of) (hh := [(0, 10, 13, 32)]) B (hts (.codeWith yL_of cL_of 5 (some .int) [(0, 10, 13, 32)]) List.mem_cons_self)
  have hl := lv_entry ([.ref (a 0), .int x1, .int x2, .ref ao]) (n := 5) (Nat.le_of_ble_eq_true rfl)
  rw [lg_entry_eq]
  generalize (lg_sl ([.ref (a 0), .int x1, .int x2, .ref ao]) ++ List.replicate (5 - (lg_sl ([.ref (a 0), .int x1, .int x2, .ref ao])).length) Slot.unset).toArray = ls at hl ⊢
  have hl : lv_has ls 5 [(0, .ref (a 0)), (1, .int x1), (2, .int x2), (3, .ref ao)] := hl
  generalize hH0 : s.heap = H at hP ⊢
  have hS : va_S A s.heap H [] := by rw [← hH0]; exact va_S.rf
  refine lv_aload_n hx hb dL_of_0 rfl (lv_at hl 3 rfl) ?_
  refine lv_iconst (v := 0) hx hb dL_of_1 (by decide) ?_
  refine lv_aload_n hx hb dL_of_2 rfl (lv_at hl 0 rfl) ?_
  refine lv_iload_n hx hb dL_of_3 rfl (lv_at hl 1 rfl) ?_
  refine lv_iload_n hx hb dL_of_4 rfl (lv_at hl 2 rfl) ?_
  have hPc := hP.sub (ws' := cW cI cZ a S) [0, 1, 2, 3, 4, 5, 6, 7, 8, 9, 10, 11, 12, 13, 14, 15, 16, 17, 18, 19, 20, 21, 22, 23, 24, 25, 26, 27] rfl
  have hDc := hD.sub (ws' := cW cI cZ a S) [0, 1, 2, 3, 4, 5, 6, 7, 8, 9, 10, 11, 12, 13, 14, 15, 16, 17, 18, 19, 20, 21, 22, 23, 24, 25, 26, 27] (by decide) rfl
  have hKc := hK.sub (tys' := tI cI cZ) [0, 1] rfl
  have hFc := va_free (wc := cW cI cZ a S) hD hS hA [0, 1, 2, 3, 4, 5, 6, 7, 8, 9, 10, 11, 12, 13, 14, 15, 16, 17, 18, 19, 20, 21, 22, 23, 24, 25, 26, 27] rfl
  refine vx_calli (vx_runV (As := [.int x1, .int x2]) (rest := [.int 0, .ref ao]) ⟨hx, hb, hml, hown, hts⟩ (c_X7_of l htr dC dI cI cZ a H.size S x1 x2 hok) (cwV 2 hts gL_of_X7_of rfl rfl rfl (by decide +kernel) ⟨Nat.le_of_ble_eq_true rfl, Nat.le_of_ble_eq_true rfl⟩) ⟨wBx, va_recv hKc hPc (ci := 6) (q0 := 0) rfl rfl, fun U hU hW => ⟨rfl, ⟨by rw [hU], by rw [hU]; exact hPc, va_K.moved hW.alike hKc, hDc.weaken (fun _ _ _ _ => trivial)⟩, hex.mv hW hU hS.2.1 hFc⟩⟩ rfl rfl hl.1 rfl (lv_room (Nat.le_of_ble_eq_true rfl)) dL_of_5 ⟨Nat.le_of_ble_eq_true rfl, Nat.le_of_ble_eq_true rfl⟩) hS (fun q _ h => hFc q h) hFc (fun q _ h => hFc q h) (fun E ce q9 u t H1 locs ht hvm hpx hBX hz1 hk1 hS hce hcv hcl => ?_) (fun r u t H1 locs ht hvm hw hB hz1 hk1 hS => ?_)
  · obtain ⟨hE, hZ, hP1, hK1, hD1⟩ := hBX
    have e1 : exK E = (rs_X7_of S x1 x2).1 := congrArg Prod.fst hZ
    have e2 : u = (rs_X7_of S x1 x2).2.2 := congrArg (fun z => z.2.2) hZ
    rw [ht] at hP1
    obtain ⟨hP, hD⟩ := va_join (wr := [(ao, .inl (cL, 1, .inr (.inl g)))]) (w1 := cW cI cZ a u) hP hD [0, 1, 2, 3, 4, 5, 6, 7, 8, 9, 10, 11, 12, 13, 14, 15, 16, 17, 18, 19, 20, 21, 22, 23, 24, 25, 26, 27] [28] rfl rfl (by decide) (by decide) hk1 hFc hP1 hD1
    have hP := hP.sub (ws' := cO cI cZ cL a ao u g) [1, 2, 3, 4, 5, 6, 7, 8, 9, 10, 11, 12, 13, 14, 15, 16, 17, 18, 19, 20, 21, 22, 23, 24, 25, 26, 27, 28, 0] rfl
    have hD := hD.sub (ws' := cO cI cZ cL a ao u g) [1, 2, 3, 4, 5, 6, 7, 8, 9, 10, 11, 12, 13, 14, 15, 16, 17, 18, 19, 20, 21, 22, 23, 24, 25, 26, 27, 28, 0] (by decide) rfl
    have kd := kd_of S x1 x2
    rcases ex3 hE with rfl | rfl | rfl
    · exact absurd kd (by rw [← e1]; decide)
    · exact absurd kd (by rw [← e1]; decide)
    · have ez : (rs_X7_of S x1 x2).1 = 3 := e1.symm.trans (by decide)
      refine ct_catch (name := "java/lang/IndexOutOfBoundsException") hown [] ⟨0, 10, 13, 32⟩ [] (by rw [htab]; rfl) (fun z h => nomatch h) (by decide) (by decide) (hts (.classLink RL 32 "java/lang/IndexOutOfBoundsException") (by decide +kernel)) (va_Nw.use rfl (hex.2.2.2.1 "java/lang/IndexOutOfBoundsException" (by decide))) hce hcv hcl ?_
      refine lv_astore (lv' := [(4, .ref q9), (0, .ref (a 0)), (1, .int x1), (2, .int x2), (3, .ref ao)]) hx hb dL_of_13 hl (by decide) rfl (fun ls hl => ?_)
      refine lv_iconst (v := 1) hx hb dL_of_15 (by decide) ?_
      exact W.iret (v := 1) hx hb hr (fun t ht hW => ⟨⟨1, (u, g), rfl, ⟨by rw [ez]; decide, by rw [← e2]; unfold oG; rw [if_neg (by rw [ez]; decide)]⟩, by rw [ht]; exact hP, va_K.moved hW.alike hK, hD⟩, hS.F ht⟩) hS.2.2 dL_of_16 hlocks
  · obtain ⟨hP1, hK1, hD1⟩ := hB
    have e0 : (rs_X7_of S x1 x2).1 = 0 := (congrArg Prod.fst hw).symm
    have e1 : r = (rs_X7_of S x1 x2).2.1 := congrArg (fun z => z.2.1) hw
    have e2 : u = (rs_X7_of S x1 x2).2.2 := congrArg (fun z => z.2.2) hw
    rw [ht] at hP1
    obtain ⟨hP, hD⟩ := va_join (wr := [(ao, .inl (cL, 1, .inr (.inl g)))]) (w1 := cW cI cZ a u) hP hD [0, 1, 2, 3, 4, 5, 6, 7, 8, 9, 10, 11, 12, 13, 14, 15, 16, 17, 18, 19, 20, 21, 22, 23, 24, 25, 26, 27] [28] rfl rfl (by decide) (by decide) hk1 hFc hP1 hD1
    have hP := hP.sub (ws' := cO cI cZ cL a ao u g) [1, 2, 3, 4, 5, 6, 7, 8, 9, 10, 11, 12, 13, 14, 15, 16, 17, 18, 19, 20, 21, 22, 23, 24, 25, 26, 27, 28, 0] rfl
    have hD := hD.sub (ws' := cO cI cZ cL a ao u g) [1, 2, 3, 4, 5, 6, 7, 8, 9, 10, 11, 12, 13, 14, 15, 16, 17, 18, 19, 20, 21, 22, 23, 24, 25, 26, 27, 28, 0] (by decide) rfl
    generalize H1 = H at hP hS ⊢
    refine lv_i2l hx hb dL_of_8 rfl ?_
    refine va_last hx hb hK hP hD hS 28 2 rfl rfl (show vp_in 0 1 by unfold vp_in; decide) dL_of_9 (fun H locs hP hD hS => ?_)
    have hP : va_P (dC, dI) vwCl (cO cI cZ cL a ao u (vp_updL g 0 r.toInt64)) H := hP
    have hD : va_D A (cO cI cZ cL a ao u (vp_updL g 0 r.toInt64)) := hD
    refine lv_goto (tgt := 17) hx hb dL_of_10 (by decide) ?_
    refine lv_iconst (v := 0) hx hb dL_of_17 (by decide) ?_
    exact W.iret (v := 0) hx hb hr (fun t ht hW => ⟨⟨0, (u, vp_updL g 0 r.toInt64), rfl, ⟨by rw [e0]; decide, by rw [← e2]; unfold oG; rw [if_pos e0, ← e1]⟩, by rw [ht]; exact hP, va_K.moved hW.alike hK, hD⟩, hS.F ht⟩) hS.2.2 dL_of_18 hlocks
abbrev rm_L_failed : Room := { frames := 7, cells := 1, slots := 6, locals := 104 }
set_option maxHeartbeats 4000000 in
set_option maxRecDepth 100000 in
theorem c_L_failed (l : Launch) (htr : l.stackTraces = false) (dC : Nat → ClassId) (dI : Nat → Nat → Nat) (cI cZ cL : ClassId) (a : Nat → Nat) (ao : Nat) (sz : Nat) (S : St) (g : Nat → Int64) (x1 x2 : Int32) (hok : ok_X7_failed S x1 x2) : Met l yL_failed wsL_failed rm_L_failed (va_Pc [.ref (a 0), .int x1, .int x2, .ref ao] (fun U => (U.heap.size = sz ∧ va_P (dC, dI) vwCl (cO cI cZ cL a ao S g) U.heap ∧ va_K (dC, dI) vwCl (tL cI cZ cL) U ∧ va_D (fun _ => True) (cO cI cZ cL a ao S g)) ∧ exE (va_A (cO cI cZ cL a ao S g) sz) U)) (va_Qi (fun (r : Int32) (u : St × (Nat → Int64)) => r = kx (rs_X7_failed S x1 x2).1 ∧ u = ((rs_X7_failed S x1 x2).2.2, oG (rs_X7_failed S x1 x2) g)) (fun u t => va_P (dC, dI) vwCl (cO cI cZ cL a ao u.1 u.2) t.heap ∧ va_K (dC, dI) vwCl (tL cI cZ cL) t ∧ va_D (va_A (cO cI cZ cL a ao S g) sz) (cO cI cZ cL a ao u.1 u.2)) (va_A (cO cI cZ cL a ao S g) sz)) 1 6 (va_A (cO cI cZ cL a ao S g) sz) := by
  refine va_MetW (cc := cL_failed) (maxL := 5) (ret := (some .int)) (hh := [(0, 10, 13, 32)]) (by decide) rfl ?_
  intro p e s m args below meth c s₁ B hml hv
  obtain ⟨rfl, ⟨hsz, hP, hK, hD0⟩, hex⟩ := hv
  have hx := B.exec
  have hb := B.bytes
  have hr := B.returns
  have hts := atoms_spec (ws := wsL_failed) B.pre
  have hown : s.vm.findClass RL = some m.cls := findClass_of_methodNamed B.named
  have hlocks := B.notSynchronized
  subst hsz
  have hD := hD0.self (sz := s.heap.size)
  generalize hAe : va_A (cO cI cZ cL a ao S g) s.heap.size = A at hD hex ⊢
  have hA : ∀ q : Nat, s.heap.size ≤ q → A q := fun q h => by rw [← hAe]; exact Or.inr h
  have hS : va_S A s.heap s.heap [] := va_S.rf
  have htab := vx_table (x := yL_failed) (hh := [(0, 10, 13, 32)]) B (hts (.codeWith yL_failed cL_failed 5 (some .int) [(0, 10, 13, 32)]) List.mem_cons_self)
  have hl := lv_entry ([.ref (a 0), .int x1, .int x2, .ref ao]) (n := 5) (Nat.le_of_ble_eq_true rfl)
  rw [lg_entry_eq]
  generalize (lg_sl ([.ref (a 0), .int x1, .int x2, .ref ao]) ++ List.replicate (5 - (lg_sl ([.ref (a 0), .int x1, .int x2, .ref ao])).length) Slot.unset).toArray = ls at hl ⊢
  have hl : lv_has ls 5 [(0, .ref (a 0)), (1, .int x1), (2, .int x2), (3, .ref ao)] := hl
  generalize hH0 : s.heap = H at hP ⊢
  have hS : va_S A s.heap H [] := by rw [← hH0]; exact va_S.rf
  refine lv_aload_n hx hb dL_failed_0 rfl (lv_at hl 3 rfl) ?_
  refine lv_iconst (v := 0) hx hb dL_failed_1 (by decide) ?_
  refine lv_aload_n hx hb dL_failed_2 rfl (lv_at hl 0 rfl) ?_
  refine lv_iload_n hx hb dL_failed_3 rfl (lv_at hl 1 rfl) ?_
  refine lv_iload_n hx hb dL_failed_4 rfl (lv_at hl 2 rfl) ?_
  have hPc := hP.sub (ws' := cW cI cZ a S) [0, 1, 2, 3, 4, 5, 6, 7, 8, 9, 10, 11, 12, 13, 14, 15, 16, 17, 18, 19, 20, 21, 22, 23, 24, 25, 26, 27] rfl
  have hDc := hD.sub (ws' := cW cI cZ a S) [0, 1, 2, 3, 4, 5, 6, 7, 8, 9, 10, 11, 12, 13, 14, 15, 16, 17, 18, 19, 20, 21, 22, 23, 24, 25, 26, 27] (by decide) rfl
  have hKc := hK.sub (tys' := tI cI cZ) [0, 1] rfl
  have hFc := va_free (wc := cW cI cZ a S) hD hS hA [0, 1, 2, 3, 4, 5, 6, 7, 8, 9, 10, 11, 12, 13, 14, 15, 16, 17, 18, 19, 20, 21, 22, 23, 24, 25, 26, 27] rfl
  refine vx_calli (vx_runV (As := [.int x1, .int x2]) (rest := [.int 0, .ref ao]) ⟨hx, hb, hml, hown, hts⟩ (c_X7_failed l htr dC dI cI cZ a H.size S x1 x2 hok) (cwV 2 hts gL_failed_X7_failed rfl rfl rfl (by decide +kernel) ⟨Nat.le_of_ble_eq_true rfl, Nat.le_of_ble_eq_true rfl⟩) ⟨wBx, va_recv hKc hPc (ci := 6) (q0 := 0) rfl rfl, fun U hU hW => ⟨rfl, ⟨by rw [hU], by rw [hU]; exact hPc, va_K.moved hW.alike hKc, hDc.weaken (fun _ _ _ _ => trivial)⟩, hex.mv hW hU hS.2.1 hFc⟩⟩ rfl rfl hl.1 rfl (lv_room (Nat.le_of_ble_eq_true rfl)) dL_failed_5 ⟨Nat.le_of_ble_eq_true rfl, Nat.le_of_ble_eq_true rfl⟩) hS (fun q _ h => hFc q h) hFc (fun q _ h => hFc q h) (fun E ce q9 u t H1 locs ht hvm hpx hBX hz1 hk1 hS hce hcv hcl => ?_) (fun r u t H1 locs ht hvm hw hB hz1 hk1 hS => ?_)
  · obtain ⟨hE, hZ, hP1, hK1, hD1⟩ := hBX
    have e1 : exK E = (rs_X7_failed S x1 x2).1 := congrArg Prod.fst hZ
    have e2 : u = (rs_X7_failed S x1 x2).2.2 := congrArg (fun z => z.2.2) hZ
    rw [ht] at hP1
    obtain ⟨hP, hD⟩ := va_join (wr := [(ao, .inl (cL, 1, .inr (.inl g)))]) (w1 := cW cI cZ a u) hP hD [0, 1, 2, 3, 4, 5, 6, 7, 8, 9, 10, 11, 12, 13, 14, 15, 16, 17, 18, 19, 20, 21, 22, 23, 24, 25, 26, 27] [28] rfl rfl (by decide) (by decide) hk1 hFc hP1 hD1
    have hP := hP.sub (ws' := cO cI cZ cL a ao u g) [1, 2, 3, 4, 5, 6, 7, 8, 9, 10, 11, 12, 13, 14, 15, 16, 17, 18, 19, 20, 21, 22, 23, 24, 25, 26, 27, 28, 0] rfl
    have hD := hD.sub (ws' := cO cI cZ cL a ao u g) [1, 2, 3, 4, 5, 6, 7, 8, 9, 10, 11, 12, 13, 14, 15, 16, 17, 18, 19, 20, 21, 22, 23, 24, 25, 26, 27, 28, 0] (by decide) rfl
    have kd := kd_failed S x1 x2
    rcases ex3 hE with rfl | rfl | rfl
    · exact absurd kd (by rw [← e1]; decide)
    · exact absurd kd (by rw [← e1]; decide)
    · have ez : (rs_X7_failed S x1 x2).1 = 3 := e1.symm.trans (by decide)
      refine ct_catch (name := "java/lang/IndexOutOfBoundsException") hown [] ⟨0, 10, 13, 32⟩ [] (by rw [htab]; rfl) (fun z h => nomatch h) (by decide) (by decide) (hts (.classLink RL 32 "java/lang/IndexOutOfBoundsException") (by decide +kernel)) (va_Nw.use rfl (hex.2.2.2.1 "java/lang/IndexOutOfBoundsException" (by decide))) hce hcv hcl ?_
      refine lv_astore (lv' := [(4, .ref q9), (0, .ref (a 0)), (1, .int x1), (2, .int x2), (3, .ref ao)]) hx hb dL_failed_13 hl (by decide) rfl (fun ls hl => ?_)
      refine lv_iconst (v := 1) hx hb dL_failed_15 (by decide) ?_
      exact W.iret (v := 1) hx hb hr (fun t ht hW => ⟨⟨1, (u, g), rfl, ⟨by rw [ez]; decide, by rw [← e2]; unfold oG; rw [if_neg (by rw [ez]; decide)]⟩, by rw [ht]; exact hP, va_K.moved hW.alike hK, hD⟩, hS.F ht⟩) hS.2.2 dL_failed_16 hlocks
  · obtain ⟨hP1, hK1, hD1⟩ := hB
    have e0 : (rs_X7_failed S x1 x2).1 = 0 := (congrArg Prod.fst hw).symm
    have e1 : r = (rs_X7_failed S x1 x2).2.1 := congrArg (fun z => z.2.1) hw
    have e2 : u = (rs_X7_failed S x1 x2).2.2 := congrArg (fun z => z.2.2) hw
    rw [ht] at hP1
    obtain ⟨hP, hD⟩ := va_join (wr := [(ao, .inl (cL, 1, .inr (.inl g)))]) (w1 := cW cI cZ a u) hP hD [0, 1, 2, 3, 4, 5, 6, 7, 8, 9, 10, 11, 12, 13, 14, 15, 16, 17, 18, 19, 20, 21, 22, 23, 24, 25, 26, 27] [28] rfl rfl (by decide) (by decide) hk1 hFc hP1 hD1
    have hP := hP.sub (ws' := cO cI cZ cL a ao u g) [1, 2, 3, 4, 5, 6, 7, 8, 9, 10, 11, 12, 13, 14, 15, 16, 17, 18, 19, 20, 21, 22, 23, 24, 25, 26, 27, 28, 0] rfl
    have hD := hD.sub (ws' := cO cI cZ cL a ao u g) [1, 2, 3, 4, 5, 6, 7, 8, 9, 10, 11, 12, 13, 14, 15, 16, 17, 18, 19, 20, 21, 22, 23, 24, 25, 26, 27, 28, 0] (by decide) rfl
    generalize H1 = H at hP hS ⊢
    refine lv_i2l hx hb dL_failed_8 rfl ?_
    refine va_last hx hb hK hP hD hS 28 2 rfl rfl (show vp_in 0 1 by unfold vp_in; decide) dL_failed_9 (fun H locs hP hD hS => ?_)
    have hP : va_P (dC, dI) vwCl (cO cI cZ cL a ao u (vp_updL g 0 r.toInt64)) H := hP
    have hD : va_D A (cO cI cZ cL a ao u (vp_updL g 0 r.toInt64)) := hD
    refine lv_goto (tgt := 17) hx hb dL_failed_10 (by decide) ?_
    refine lv_iconst (v := 0) hx hb dL_failed_17 (by decide) ?_
    exact W.iret (v := 0) hx hb hr (fun t ht hW => ⟨⟨0, (u, vp_updL g 0 r.toInt64), rfl, ⟨by rw [e0]; decide, by rw [← e2]; unfold oG; rw [if_pos e0, ← e1]⟩, by rw [ht]; exact hP, va_K.moved hW.alike hK, hD⟩, hS.F ht⟩) hS.2.2 dL_failed_18 hlocks
abbrev rm_L_edition : Room := { frames := 7, cells := 1, slots := 6, locals := 104 }
set_option maxHeartbeats 4000000 in
set_option maxRecDepth 100000 in
theorem c_L_edition (l : Launch) (htr : l.stackTraces = false) (dC : Nat → ClassId) (dI : Nat → Nat → Nat) (cI cZ cL : ClassId) (a : Nat → Nat) (ao : Nat) (sz : Nat) (S : St) (g : Nat → Int64) (x1 x2 : Int32) (hok : ok_X7_edition S x1 x2) : Met l yL_edition wsL_edition rm_L_edition (va_Pc [.ref (a 0), .int x1, .int x2, .ref ao] (fun U => (U.heap.size = sz ∧ va_P (dC, dI) vwCl (cO cI cZ cL a ao S g) U.heap ∧ va_K (dC, dI) vwCl (tL cI cZ cL) U ∧ va_D (fun _ => True) (cO cI cZ cL a ao S g)) ∧ exE (va_A (cO cI cZ cL a ao S g) sz) U)) (va_Qi (fun (r : Int32) (u : St × (Nat → Int64)) => r = kx (rs_X7_edition S x1 x2).1 ∧ u = ((rs_X7_edition S x1 x2).2.2, oG (rs_X7_edition S x1 x2) g)) (fun u t => va_P (dC, dI) vwCl (cO cI cZ cL a ao u.1 u.2) t.heap ∧ va_K (dC, dI) vwCl (tL cI cZ cL) t ∧ va_D (va_A (cO cI cZ cL a ao S g) sz) (cO cI cZ cL a ao u.1 u.2)) (va_A (cO cI cZ cL a ao S g) sz)) 1 6 (va_A (cO cI cZ cL a ao S g) sz) := by
  refine va_MetW (cc := cL_edition) (maxL := 5) (ret := (some .int)) (hh := [(0, 10, 13, 32)]) (by decide) rfl ?_
  intro p e s m args below meth c s₁ B hml hv
  obtain ⟨rfl, ⟨hsz, hP, hK, hD0⟩, hex⟩ := hv
  have hx := B.exec
  have hb := B.bytes
  have hr := B.returns
  have hts := atoms_spec (ws := wsL_edition) B.pre
  have hown : s.vm.findClass RL = some m.cls := findClass_of_methodNamed B.named
  have hlocks := B.notSynchronized
  subst hsz
  have hD := hD0.self (sz := s.heap.size)
  generalize hAe : va_A (cO cI cZ cL a ao S g) s.heap.size = A at hD hex ⊢
  have hA : ∀ q : Nat, s.heap.size ≤ q → A q := fun q h => by rw [← hAe]; exact Or.inr h
  have hS : va_S A s.heap s.heap [] := va_S.rf
  have htab := vx_table (x := yL_edition) (hh := [(0, 10, 13, 32)]) B (hts (.codeWith yL_edition cL_edition 5 (some .int) [(0, 10, 13, 32)]) List.mem_cons_self)
  have hl := lv_entry ([.ref (a 0), .int x1, .int x2, .ref ao]) (n := 5) (Nat.le_of_ble_eq_true rfl)
  rw [lg_entry_eq]
  generalize (lg_sl ([.ref (a 0), .int x1, .int x2, .ref ao]) ++ List.replicate (5 - (lg_sl ([.ref (a 0), .int x1, .int x2, .ref ao])).length) Slot.unset).toArray = ls at hl ⊢
  have hl : lv_has ls 5 [(0, .ref (a 0)), (1, .int x1), (2, .int x2), (3, .ref ao)] := hl
  generalize hH0 : s.heap = H at hP ⊢
  have hS : va_S A s.heap H [] := by rw [← hH0]; exact va_S.rf
  refine lv_aload_n hx hb dL_edition_0 rfl (lv_at hl 3 rfl) ?_
  refine lv_iconst (v := 0) hx hb dL_edition_1 (by decide) ?_
  refine lv_aload_n hx hb dL_edition_2 rfl (lv_at hl 0 rfl) ?_
  refine lv_iload_n hx hb dL_edition_3 rfl (lv_at hl 1 rfl) ?_
  refine lv_iload_n hx hb dL_edition_4 rfl (lv_at hl 2 rfl) ?_
  have hPc := hP.sub (ws' := cW cI cZ a S) [0, 1, 2, 3, 4, 5, 6, 7, 8, 9, 10, 11, 12, 13, 14, 15, 16, 17, 18, 19, 20, 21, 22, 23, 24, 25, 26, 27] rfl
  have hDc := hD.sub (ws' := cW cI cZ a S) [0, 1, 2, 3, 4, 5, 6, 7, 8, 9, 10, 11, 12, 13, 14, 15, 16, 17, 18, 19, 20, 21, 22, 23, 24, 25, 26, 27] (by decide) rfl
  have hKc := hK.sub (tys' := tI cI cZ) [0, 1] rfl
  have hFc := va_free (wc := cW cI cZ a S) hD hS hA [0, 1, 2, 3, 4, 5, 6, 7, 8, 9, 10, 11, 12, 13, 14, 15, 16, 17, 18, 19, 20, 21, 22, 23, 24, 25, 26, 27] rfl
  refine vx_calli (vx_runV (As := [.int x1, .int x2]) (rest := [.int 0, .ref ao]) ⟨hx, hb, hml, hown, hts⟩ (c_X7_edition l htr dC dI cI cZ a H.size S x1 x2 hok) (cwV 2 hts gL_edition_X7_edition rfl rfl rfl (by decide +kernel) ⟨Nat.le_of_ble_eq_true rfl, Nat.le_of_ble_eq_true rfl⟩) ⟨wBx, va_recv hKc hPc (ci := 6) (q0 := 0) rfl rfl, fun U hU hW => ⟨rfl, ⟨by rw [hU], by rw [hU]; exact hPc, va_K.moved hW.alike hKc, hDc.weaken (fun _ _ _ _ => trivial)⟩, hex.mv hW hU hS.2.1 hFc⟩⟩ rfl rfl hl.1 rfl (lv_room (Nat.le_of_ble_eq_true rfl)) dL_edition_5 ⟨Nat.le_of_ble_eq_true rfl, Nat.le_of_ble_eq_true rfl⟩) hS (fun q _ h => hFc q h) hFc (fun q _ h => hFc q h) (fun E ce q9 u t H1 locs ht hvm hpx hBX hz1 hk1 hS hce hcv hcl => ?_) (fun r u t H1 locs ht hvm hw hB hz1 hk1 hS => ?_)
  · obtain ⟨hE, hZ, hP1, hK1, hD1⟩ := hBX
    have e1 : exK E = (rs_X7_edition S x1 x2).1 := congrArg Prod.fst hZ
    have e2 : u = (rs_X7_edition S x1 x2).2.2 := congrArg (fun z => z.2.2) hZ
    rw [ht] at hP1
    obtain ⟨hP, hD⟩ := va_join (wr := [(ao, .inl (cL, 1, .inr (.inl g)))]) (w1 := cW cI cZ a u) hP hD [0, 1, 2, 3, 4, 5, 6, 7, 8, 9, 10, 11, 12, 13, 14, 15, 16, 17, 18, 19, 20, 21, 22, 23, 24, 25, 26, 27] [28] rfl rfl (by decide) (by decide) hk1 hFc hP1 hD1
    have hP := hP.sub (ws' := cO cI cZ cL a ao u g) [1, 2, 3, 4, 5, 6, 7, 8, 9, 10, 11, 12, 13, 14, 15, 16, 17, 18, 19, 20, 21, 22, 23, 24, 25, 26, 27, 28, 0] rfl
    have hD := hD.sub (ws' := cO cI cZ cL a ao u g) [1, 2, 3, 4, 5, 6, 7, 8, 9, 10, 11, 12, 13, 14, 15, 16, 17, 18, 19, 20, 21, 22, 23, 24, 25, 26, 27, 28, 0] (by decide) rfl
    have kd := kd_edition S x1 x2
    rcases ex3 hE with rfl | rfl | rfl
    · exact absurd kd (by rw [← e1]; decide)
    · exact absurd kd (by rw [← e1]; decide)
    · have ez : (rs_X7_edition S x1 x2).1 = 3 := e1.symm.trans (by decide)
      refine ct_catch (name := "java/lang/IndexOutOfBoundsException") hown [] ⟨0, 10, 13, 32⟩ [] (by rw [htab]; rfl) (fun z h => nomatch h) (by decide) (by decide) (hts (.classLink RL 32 "java/lang/IndexOutOfBoundsException") (by decide +kernel)) (va_Nw.use rfl (hex.2.2.2.1 "java/lang/IndexOutOfBoundsException" (by decide))) hce hcv hcl ?_
      refine lv_astore (lv' := [(4, .ref q9), (0, .ref (a 0)), (1, .int x1), (2, .int x2), (3, .ref ao)]) hx hb dL_edition_13 hl (by decide) rfl (fun ls hl => ?_)
      refine lv_iconst (v := 1) hx hb dL_edition_15 (by decide) ?_
      exact W.iret (v := 1) hx hb hr (fun t ht hW => ⟨⟨1, (u, g), rfl, ⟨by rw [ez]; decide, by rw [← e2]; unfold oG; rw [if_neg (by rw [ez]; decide)]⟩, by rw [ht]; exact hP, va_K.moved hW.alike hK, hD⟩, hS.F ht⟩) hS.2.2 dL_edition_16 hlocks
  · obtain ⟨hP1, hK1, hD1⟩ := hB
    have e0 : (rs_X7_edition S x1 x2).1 = 0 := (congrArg Prod.fst hw).symm
    have e1 : r = (rs_X7_edition S x1 x2).2.1 := congrArg (fun z => z.2.1) hw
    have e2 : u = (rs_X7_edition S x1 x2).2.2 := congrArg (fun z => z.2.2) hw
    rw [ht] at hP1
    obtain ⟨hP, hD⟩ := va_join (wr := [(ao, .inl (cL, 1, .inr (.inl g)))]) (w1 := cW cI cZ a u) hP hD [0, 1, 2, 3, 4, 5, 6, 7, 8, 9, 10, 11, 12, 13, 14, 15, 16, 17, 18, 19, 20, 21, 22, 23, 24, 25, 26, 27] [28] rfl rfl (by decide) (by decide) hk1 hFc hP1 hD1
    have hP := hP.sub (ws' := cO cI cZ cL a ao u g) [1, 2, 3, 4, 5, 6, 7, 8, 9, 10, 11, 12, 13, 14, 15, 16, 17, 18, 19, 20, 21, 22, 23, 24, 25, 26, 27, 28, 0] rfl
    have hD := hD.sub (ws' := cO cI cZ cL a ao u g) [1, 2, 3, 4, 5, 6, 7, 8, 9, 10, 11, 12, 13, 14, 15, 16, 17, 18, 19, 20, 21, 22, 23, 24, 25, 26, 27, 28, 0] (by decide) rfl
    generalize H1 = H at hP hS ⊢
    refine lv_i2l hx hb dL_edition_8 rfl ?_
    refine va_last hx hb hK hP hD hS 28 2 rfl rfl (show vp_in 0 1 by unfold vp_in; decide) dL_edition_9 (fun H locs hP hD hS => ?_)
    have hP : va_P (dC, dI) vwCl (cO cI cZ cL a ao u (vp_updL g 0 r.toInt64)) H := hP
    have hD : va_D A (cO cI cZ cL a ao u (vp_updL g 0 r.toInt64)) := hD
    refine lv_goto (tgt := 17) hx hb dL_edition_10 (by decide) ?_
    refine lv_iconst (v := 0) hx hb dL_edition_17 (by decide) ?_
    exact W.iret (v := 0) hx hb hr (fun t ht hW => ⟨⟨0, (u, vp_updL g 0 r.toInt64), rfl, ⟨by rw [e0]; decide, by rw [← e2]; unfold oG; rw [if_pos e0, ← e1]⟩, by rw [ht]; exact hP, va_K.moved hW.alike hK, hD⟩, hS.F ht⟩) hS.2.2 dL_edition_18 hlocks
abbrev rm_L_look : Room := { frames := 7, cells := 1, slots := 6, locals := 104 }
set_option maxHeartbeats 4000000 in
set_option maxRecDepth 100000 in
theorem c_L_look (l : Launch) (htr : l.stackTraces = false) (dC : Nat → ClassId) (dI : Nat → Nat → Nat) (cI cZ cL : ClassId) (a : Nat → Nat) (ao : Nat) (sz : Nat) (S : St) (g : Nat → Int64) (x1 x2 : Int32) (hok : ok_X7_look S x1 x2) : Met l yL_look wsL_look rm_L_look (va_Pc [.ref (a 0), .int x1, .int x2, .ref ao] (fun U => (U.heap.size = sz ∧ va_P (dC, dI) vwCl (cO cI cZ cL a ao S g) U.heap ∧ va_K (dC, dI) vwCl (tL cI cZ cL) U ∧ va_D (fun _ => True) (cO cI cZ cL a ao S g)) ∧ exE (va_A (cO cI cZ cL a ao S g) sz) U)) (va_Qi (fun (r : Int32) (u : St × (Nat → Int64)) => r = kx (rs_X7_look S x1 x2).1 ∧ u = ((rs_X7_look S x1 x2).2.2, oG (rs_X7_look S x1 x2) g)) (fun u t => va_P (dC, dI) vwCl (cO cI cZ cL a ao u.1 u.2) t.heap ∧ va_K (dC, dI) vwCl (tL cI cZ cL) t ∧ va_D (va_A (cO cI cZ cL a ao S g) sz) (cO cI cZ cL a ao u.1 u.2)) (va_A (cO cI cZ cL a ao S g) sz)) 1 6 (va_A (cO cI cZ cL a ao S g) sz) := by
  refine va_MetW (cc := cL_look) (maxL := 5) (ret := (some .int)) (hh := [(0, 10, 13, 32)]) (by decide) rfl ?_
  intro p e s m args below meth c s₁ B hml hv
  obtain ⟨rfl, ⟨hsz, hP, hK, hD0⟩, hex⟩ := hv
  have hx := B.exec
  have hb := B.bytes
  have hr := B.returns
  have hts := atoms_spec (ws := wsL_look) B.pre
  have hown : s.vm.findClass RL = some m.cls := findClass_of_methodNamed B.named
  have hlocks := B.notSynchronized
  subst hsz
  have hD := hD0.self (sz := s.heap.size)
  generalize hAe : va_A (cO cI cZ cL a ao S g) s.heap.size = A at hD hex ⊢
  have hA : ∀ q : Nat, s.heap.size ≤ q → A q := fun q h => by rw [← hAe]; exact Or.inr h
  have hS : va_S A s.heap s.heap [] := va_S.rf
  have htab := vx_table (x := yL_look) (hh := [(0, 10, 13, 32)]) B (hts (.codeWith yL_look cL_look 5 (some .int) [(0, 10, 13, 32)]) List.mem_cons_self)
  have hl := lv_entry ([.ref (a 0), .int x1, .int x2, .ref ao]) (n := 5) (Nat.le_of_ble_eq_true rfl)
  rw [lg_entry_eq]
  generalize (lg_sl ([.ref (a 0), .int x1, .int x2, .ref ao]) ++ List.replicate (5 - (lg_sl ([.ref (a 0), .int x1, .int x2, .ref ao])).length) Slot.unset).toArray = ls at hl ⊢
  have hl : lv_has ls 5 [(0, .ref (a 0)), (1, .int x1), (2, .int x2), (3, .ref ao)] := hl
  generalize hH0 : s.heap = H at hP ⊢
  have hS : va_S A s.heap H [] := by rw [← hH0]; exact va_S.rf
  refine lv_aload_n hx hb dL_look_0 rfl (lv_at hl 3 rfl) ?_
  refine lv_iconst (v := 0) hx hb dL_look_1 (by decide) ?_
  refine lv_aload_n hx hb dL_look_2 rfl (lv_at hl 0 rfl) ?_
  refine lv_iload_n hx hb dL_look_3 rfl (lv_at hl 1 rfl) ?_
  refine lv_iload_n hx hb dL_look_4 rfl (lv_at hl 2 rfl) ?_
  have hPc := hP.sub (ws' := cW cI cZ a S) [0, 1, 2, 3, 4, 5, 6, 7, 8, 9, 10, 11, 12, 13, 14, 15, 16, 17, 18, 19, 20, 21, 22, 23, 24, 25, 26, 27] rfl
  have hDc := hD.sub (ws' := cW cI cZ a S) [0, 1, 2, 3, 4, 5, 6, 7, 8, 9, 10, 11, 12, 13, 14, 15, 16, 17, 18, 19, 20, 21, 22, 23, 24, 25, 26, 27] (by decide) rfl
  have hKc := hK.sub (tys' := tI cI cZ) [0, 1] rfl
  have hFc := va_free (wc := cW cI cZ a S) hD hS hA [0, 1, 2, 3, 4, 5, 6, 7, 8, 9, 10, 11, 12, 13, 14, 15, 16, 17, 18, 19, 20, 21, 22, 23, 24, 25, 26, 27] rfl
  refine vx_calli (vx_runV (As := [.int x1, .int x2]) (rest := [.int 0, .ref ao]) ⟨hx, hb, hml, hown, hts⟩ (c_X7_look l htr dC dI cI cZ a H.size S x1 x2 hok) (cwV 2 hts gL_look_X7_look rfl rfl rfl (by decide +kernel) ⟨Nat.le_of_ble_eq_true rfl, Nat.le_of_ble_eq_true rfl⟩) ⟨wBx, va_recv hKc hPc (ci := 6) (q0 := 0) rfl rfl, fun U hU hW => ⟨rfl, ⟨by rw [hU], by rw [hU]; exact hPc, va_K.moved hW.alike hKc, hDc.weaken (fun _ _ _ _ => trivial)⟩, hex.mv hW hU hS.2.1 hFc⟩⟩ rfl rfl hl.1 rfl (lv_room (Nat.le_of_ble_eq_true rfl)) dL_look_5 ⟨Nat.le_of_ble_eq_true rfl, Nat.le_of_ble_eq_true rfl⟩) hS (fun q _ h => hFc q h) hFc (fun q _ h => hFc q h) (fun E ce q9 u t H1 locs ht hvm hpx hBX hz1 hk1 hS hce hcv hcl => ?_) (fun r u t H1 locs ht hvm hw hB hz1 hk1 hS => ?_)
  · obtain ⟨hE, hZ, hP1, hK1, hD1⟩ := hBX
    have e1 : exK E = (rs_X7_look S x1 x2).1 := congrArg Prod.fst hZ
    have e2 : u = (rs_X7_look S x1 x2).2.2 := congrArg (fun z => z.2.2) hZ
    rw [ht] at hP1
    obtain ⟨hP, hD⟩ := va_join (wr := [(ao, .inl (cL, 1, .inr (.inl g)))]) (w1 := cW cI cZ a u) hP hD [0, 1, 2, 3, 4, 5, 6, 7, 8, 9, 10, 11, 12, 13, 14, 15, 16, 17, 18, 19, 20, 21, 22, 23, 24, 25, 26, 27] [28] rfl rfl (by decide) (by decide) hk1 hFc hP1 hD1
    have hP := hP.sub (ws' := cO cI cZ cL a ao u g) [1, 2, 3, 4, 5, 6, 7, 8, 9, 10, 11, 12, 13, 14, 15, 16, 17, 18, 19, 20, 21, 22, 23, 24, 25, 26, 27, 28, 0] rfl
    have hD := hD.sub (ws' := cO cI cZ cL a ao u g) [1, 2, 3, 4, 5, 6, 7, 8, 9, 10, 11, 12, 13, 14, 15, 16, 17, 18, 19, 20, 21, 22, 23, 24, 25, 26, 27, 28, 0] (by decide) rfl
    have kd := kd_look S x1 x2
    rcases ex3 hE with rfl | rfl | rfl
    · exact absurd kd (by rw [← e1]; decide)
    · exact absurd kd (by rw [← e1]; decide)
    · have ez : (rs_X7_look S x1 x2).1 = 3 := e1.symm.trans (by decide)
      refine ct_catch (name := "java/lang/IndexOutOfBoundsException") hown [] ⟨0, 10, 13, 32⟩ [] (by rw [htab]; rfl) (fun z h => nomatch h) (by decide) (by decide) (hts (.classLink RL 32 "java/lang/IndexOutOfBoundsException") (by decide +kernel)) (va_Nw.use rfl (hex.2.2.2.1 "java/lang/IndexOutOfBoundsException" (by decide))) hce hcv hcl ?_
      refine lv_astore (lv' := [(4, .ref q9), (0, .ref (a 0)), (1, .int x1), (2, .int x2), (3, .ref ao)]) hx hb dL_look_13 hl (by decide) rfl (fun ls hl => ?_)
      refine lv_iconst (v := 1) hx hb dL_look_15 (by decide) ?_
      exact W.iret (v := 1) hx hb hr (fun t ht hW => ⟨⟨1, (u, g), rfl, ⟨by rw [ez]; decide, by rw [← e2]; unfold oG; rw [if_neg (by rw [ez]; decide)]⟩, by rw [ht]; exact hP, va_K.moved hW.alike hK, hD⟩, hS.F ht⟩) hS.2.2 dL_look_16 hlocks
  · obtain ⟨hP1, hK1, hD1⟩ := hB
    have e0 : (rs_X7_look S x1 x2).1 = 0 := (congrArg Prod.fst hw).symm
    have e1 : r = (rs_X7_look S x1 x2).2.1 := congrArg (fun z => z.2.1) hw
    have e2 : u = (rs_X7_look S x1 x2).2.2 := congrArg (fun z => z.2.2) hw
    rw [ht] at hP1
    obtain ⟨hP, hD⟩ := va_join (wr := [(ao, .inl (cL, 1, .inr (.inl g)))]) (w1 := cW cI cZ a u) hP hD [0, 1, 2, 3, 4, 5, 6, 7, 8, 9, 10, 11, 12, 13, 14, 15, 16, 17, 18, 19, 20, 21, 22, 23, 24, 25, 26, 27] [28] rfl rfl (by decide) (by decide) hk1 hFc hP1 hD1
    have hP := hP.sub (ws' := cO cI cZ cL a ao u g) [1, 2, 3, 4, 5, 6, 7, 8, 9, 10, 11, 12, 13, 14, 15, 16, 17, 18, 19, 20, 21, 22, 23, 24, 25, 26, 27, 28, 0] rfl
    have hD := hD.sub (ws' := cO cI cZ cL a ao u g) [1, 2, 3, 4, 5, 6, 7, 8, 9, 10, 11, 12, 13, 14, 15, 16, 17, 18, 19, 20, 21, 22, 23, 24, 25, 26, 27, 28, 0] (by decide) rfl
    generalize H1 = H at hP hS ⊢
    refine lv_i2l hx hb dL_look_8 rfl ?_
    refine va_last hx hb hK hP hD hS 28 2 rfl rfl (show vp_in 0 1 by unfold vp_in; decide) dL_look_9 (fun H locs hP hD hS => ?_)
    have hP : va_P (dC, dI) vwCl (cO cI cZ cL a ao u (vp_updL g 0 r.toInt64)) H := hP
    have hD : va_D A (cO cI cZ cL a ao u (vp_updL g 0 r.toInt64)) := hD
    refine lv_goto (tgt := 17) hx hb dL_look_10 (by decide) ?_
    refine lv_iconst (v := 0) hx hb dL_look_17 (by decide) ?_
    exact W.iret (v := 0) hx hb hr (fun t ht hW => ⟨⟨0, (u, vp_updL g 0 r.toInt64), rfl, ⟨by rw [e0]; decide, by rw [← e2]; unfold oG; rw [if_pos e0, ← e1]⟩, by rw [ht]; exact hP, va_K.moved hW.alike hK, hD⟩, hS.F ht⟩) hS.2.2 dL_look_18 hlocks
