abbrev rm_X0_open : Room := { frames := 0, cells := 0, slots := 0, locals := 0 }
theorem iX0_open_X0 : ∀ w ∈ wsX00, w ∈ wsX0_open := by decide +kernel
def rs_X0_open_12 (S : St) (x2 : Int32) : Int32 × St := (x2, (sI S 686 ((S.1 686) + 1)))
def ok_X0_open_12 (S : St) (x2 : Int32) : Prop := True
set_option maxHeartbeats 4000000 in
set_option maxRecDepth 100000 in
theorem w_X0_open_12 {p : Program} {l : Launch} {e : Env} {s : State} {m : MethodId} {args : Array Value} {below : List Frame} {meth : Method} {c : Code} {dC : Nat → ClassId} {dI : Nat → Nat → Nat} {cI cZ : ClassId} {a : Nat → Nat} {A : Nat → Prop} (C0 : Cx p s m args meth c RX0 cX0_open (some .int) 3 wsX0_open) (hK : va_K (dC, dI) vwCl (tI cI cZ) s) (hA : ∀ q, s.heap.size ≤ q → A q) (Z : Int32 × St) (S : St) (x2 : Int32) (hok : ok_X0_open_12 S x2) (hZ : rs_X0_open_12 S x2 = Z) (H : Heap) (locs : List Loc) (hP : va_P (dC, dI) vwCl (cW cI cZ a S) H) (hD : va_D A (cW cI cZ a S)) (hS : va_S A s.heap H locs) (ls : Array Slot) (hl : lv_has ls 3 [(0, .ref (a 17)), (2, .int x2)]) : W p l e rm_X0_open s m args below meth c H locs 0 0 (MQ below (va_Qi (fun (r : Int32) (u : St) => (r, u) = Z) (cWB dC dI cI cZ a A) A) args s 0 0 A) (F0 m 12 ls []) := by
  obtain ⟨hx, hb, hr, hml, hown, hts, hlocks⟩ := id C0
  rw [ok_X0_open_12] at hok
  rw [rs_X0_open_12] at hZ
  refine lv_aload_n hx hb dX0_open_12 rfl (lv_at hl 0 rfl) ?_
  refine lv_dup hx hb dX0_open_13 rfl ?_
  refine va_get (D := (dC, dI)) (ci := 0) (v := .int (S.1 686)) (C := RX0) (T := TX0) (N := 8) hx hb hts iX0_open_X0 hown hK hP 17 rfl rfl 6 (by decide) (hts (.fieldLink RX0 31 "RiskHouse$Cases" "size" "I") (by decide +kernel)) (fun _ h9 => h9) rfl dX0_open_14 ?_
  refine lv_iconst (v := 1) hx hb dX0_open_17 (by decide) ?_
  refine lv_iadd hx hb dX0_open_18 ?_
  refine va_put (D := (dC, dI)) (ci := 0) (v := .int ((S.1 686) + 1)) (ty := .int) (C := RX0) (T := TX0) (N := 8) hx hb hts iX0_open_X0 tyX0 tyX0_ok nmX0 hown hK hP hD hS 17 rfl rfl 6 (by decide) (hts (.fieldLink RX0 31 "RiskHouse$Cases" "size" "I") (by decide +kernel)) (fun _ h9 => h9) rfl (by decide +kernel) rfl rfl (Nat.le_of_ble_eq_true rfl) dX0_open_19 (fun H locs hP hD hS => ?_)
  have hP : va_P (dC, dI) vwCl (cW cI cZ a (sI S 686 ((S.1 686) + 1))) H := hP
  have hD : va_D A (cW cI cZ a (sI S 686 ((S.1 686) + 1))) := hD
  refine lv_iload_n hx hb dX0_open_22 rfl (lv_at hl 1 rfl) ?_
  exact W.iret (v := x2) hx hb hr (fun t ht hW => ⟨⟨x2, (sI S 686 ((S.1 686) + 1)), rfl, hZ, by rw [ht]; exact hP, va_K.moved hW.alike hK, hD⟩, hS.F ht⟩) hS.2.2 dX0_open_23 hlocks
def rs_X0_open (S : St) (x1 : Int32) : Int32 × St := (rs_X0_open_12 (sA S 18 (S.1 686).toNatClampNeg x1) (S.1 686))
def ok_X0_open (S : St) (x1 : Int32) : Prop := ((vp_in (S.1 686) 40) ∧ ok_X0_open_12 (sA S 18 (S.1 686).toNatClampNeg x1) (S.1 686))
set_option maxHeartbeats 4000000 in
set_option maxRecDepth 100000 in
theorem w_X0_open {p : Program} {l : Launch} {e : Env} {s : State} {m : MethodId} {args : Array Value} {below : List Frame} {meth : Method} {c : Code} {dC : Nat → ClassId} {dI : Nat → Nat → Nat} {cI cZ : ClassId} {a : Nat → Nat} {A : Nat → Prop} (C0 : Cx p s m args meth c RX0 cX0_open (some .int) 3 wsX0_open) (hK : va_K (dC, dI) vwCl (tI cI cZ) s) (hA : ∀ q, s.heap.size ≤ q → A q) (Z : Int32 × St) (S : St) (x1 : Int32) (hok : ok_X0_open S x1) (hZ : rs_X0_open S x1 = Z) (H : Heap) (locs : List Loc) (hP : va_P (dC, dI) vwCl (cW cI cZ a S) H) (hD : va_D A (cW cI cZ a S)) (hS : va_S A s.heap H locs) (ls : Array Slot) (hl : lv_has ls 3 [(0, .ref (a 17)), (1, .int x1)]) : W p l e rm_X0_open s m args below meth c H locs 0 0 (MQ below (va_Qi (fun (r : Int32) (u : St) => (r, u) = Z) (cWB dC dI cI cZ a A) A) args s 0 0 A) (F0 m 0 ls []) := by
  obtain ⟨hx, hb, hr, hml, hown, hts, hlocks⟩ := id C0
  rw [ok_X0_open] at hok
  rw [rs_X0_open] at hZ
  refine lv_aload_n hx hb dX0_open_0 rfl (lv_at hl 0 rfl) ?_
  refine va_get (D := (dC, dI)) (ci := 0) (v := .int (S.1 686)) (C := RX0) (T := TX0) (N := 8) hx hb hts iX0_open_X0 hown hK hP 17 rfl rfl 6 (by decide) (hts (.fieldLink RX0 31 "RiskHouse$Cases" "size" "I") (by decide +kernel)) (fun _ h9 => h9) rfl dX0_open_1 ?_
  refine lv_istore_n (lv' := [(2, .int (S.1 686)), (0, .ref (a 17)), (1, .int x1)]) hx hb dX0_open_4 rfl hl (by decide) rfl (fun ls hl => ?_)
  refine lv_aload_n hx hb dX0_open_5 rfl (lv_at hl 1 rfl) ?_
  refine va_get (D := (dC, dI)) (ci := 0) (v := .ref (a 18)) (C := RX0) (T := TX0) (N := 8) hx hb hts iX0_open_X0 hown hK hP 17 rfl rfl 0 (by decide) (hts (.fieldLink RX0 11 "RiskHouse$Cases" "office" "[I") (by decide +kernel)) (fun _ h9 => h9) rfl dX0_open_6 ?_
  refine lv_iload_n hx hb dX0_open_9 rfl (lv_at hl 0 rfl) ?_
  refine lv_iload_n hx hb dX0_open_10 rfl (lv_at hl 2 rfl) ?_
  obtain ⟨h_1, hok⟩ := hok
  refine va_iast hx hb hK hP hD hS 18 0 rfl rfl h_1 dX0_open_11 (fun H locs hP hD hS => ?_)
  have hP : va_P (dC, dI) vwCl (cW cI cZ a (sA S 18 (S.1 686).toNatClampNeg x1)) H := hP
  have hD : va_D A (cW cI cZ a (sA S 18 (S.1 686).toNatClampNeg x1)) := hD
  exact w_X0_open_12 C0 hK hA Z (sA S 18 (S.1 686).toNatClampNeg x1) (S.1 686) hok hZ _ _ hP hD hS _ (lv_sub hl [1, 0] rfl)
set_option maxHeartbeats 4000000 in
set_option maxRecDepth 100000 in
theorem c_X0_open (l : Launch) (dC : Nat → ClassId) (dI : Nat → Nat → Nat) (cI cZ : ClassId) (a : Nat → Nat) (sz : Nat) (S : St) (x1 : Int32) (hok : ok_X0_open S x1) : Met l yX0_open wsX0_open rm_X0_open (va_Pc [.ref (a 17), .int x1] (cWP dC dI cI cZ a sz S)) (va_Qi (fun (r : Int32) (u : St) => (r, u) = rs_X0_open S x1) (cWB dC dI cI cZ a (va_A (cW cI cZ a S) sz)) (va_A (cW cI cZ a S) sz)) 0 0 (va_A (cW cI cZ a S) sz) := by
  refine Met.ofW (cc := cX0_open) (maxL := 3) (ret := (some .int)) (by decide) rfl ?_
  intro p e s m args below meth c s₁ B hml hv
  obtain ⟨rfl, hsz, hP, hK, hD0⟩ := hv
  subst hsz
  have hD := hD0.self (sz := s.heap.size)
  have hl := lv_entry ([.ref (a 17), .int x1]) (n := 3) (Nat.le_of_ble_eq_true rfl)
  rw [lg_entry_eq]
  generalize (lg_sl ([.ref (a 17), .int x1]) ++ List.replicate (3 - (lg_sl ([.ref (a 17), .int x1])).length) Slot.unset).toArray = ls at hl ⊢
  have hl : lv_has ls 3 [(0, .ref (a 17)), (1, .int x1)] := hl
  exact w_X0_open ⟨B.exec, B.bytes, B.returns, hml, findClass_of_methodNamed B.named, atoms_spec (ws := wsX0_open) B.pre, B.notSynchronized⟩ hK (fun q h => Or.inr h) _ S x1 hok rfl _ _ hP hD va_S.rf ls hl
abbrev rm_X0_judge : Room := { frames := 0, cells := 0, slots := 0, locals := 0 }
theorem iX0_judge_X0 : ∀ w ∈ wsX00, w ∈ wsX0_judge := by decide +kernel
def rs_X0_judge_14 (S : St) (x1 : Int32) (x4 : Int32) : St := (sA S 21 x1.toNatClampNeg (vp_nar .boolean x4))
def ok_X0_judge_14 (S : St) (x1 : Int32) (x4 : Int32) : Prop := ((vp_in x1 40) ∧ True)
set_option maxHeartbeats 4000000 in
set_option maxRecDepth 100000 in
theorem w_X0_judge_14 {p : Program} {l : Launch} {e : Env} {s : State} {m : MethodId} {args : Array Value} {below : List Frame} {meth : Method} {c : Code} {dC : Nat → ClassId} {dI : Nat → Nat → Nat} {cI cZ : ClassId} {a : Nat → Nat} {A : Nat → Prop} (C0 : Cx p s m args meth c RX0 cX0_judge none 5 wsX0_judge) (hK : va_K (dC, dI) vwCl (tI cI cZ) s) (hA : ∀ q, s.heap.size ≤ q → A q) (Z : St) (S : St) (x1 : Int32) (x4 : Int32) (hok : ok_X0_judge_14 S x1 x4) (hZ : rs_X0_judge_14 S x1 x4 = Z) (H : Heap) (locs : List Loc) (hP : va_P (dC, dI) vwCl (cW cI cZ a S) H) (hD : va_D A (cW cI cZ a S)) (hS : va_S A s.heap H locs) (ls : Array Slot) (hl : lv_has ls 5 [(0, .ref (a 17)), (1, .int x1), (4, .int x4)]) : W p l e rm_X0_judge s m args below meth c H locs 0 0 (MQ below (va_Qv (fun u : St => u = Z) (cWB dC dI cI cZ a A) A) args s 0 0 A) (F0 m 14 ls []) := by
  obtain ⟨hx, hb, hr, hml, hown, hts, hlocks⟩ := id C0
  rw [ok_X0_judge_14] at hok
  rw [rs_X0_judge_14] at hZ
  refine lv_aload_n hx hb dX0_judge_14 rfl (lv_at hl 0 rfl) ?_
  refine va_get (D := (dC, dI)) (ci := 0) (v := .ref (a 21)) (C := RX0) (T := TX0) (N := 8) hx hb hts iX0_judge_X0 hown hK hP 17 rfl rfl 3 (by decide) (hts (.fieldLink RX0 21 "RiskHouse$Cases" "byChance" "[Z") (by decide +kernel)) (fun _ h9 => h9) rfl dX0_judge_15 ?_
  refine lv_iload_n hx hb dX0_judge_18 rfl (lv_at hl 1 rfl) ?_
  refine lv_iload hx hb dX0_judge_19 (lv_at hl 2 rfl) ?_
  obtain ⟨h_1, hok⟩ := hok
  refine va_zast hx hb hK hP hD hS 21 1 rfl rfl h_1 dX0_judge_21 (fun H locs hP hD hS => ?_)
  have hP : va_P (dC, dI) vwCl (cW cI cZ a (sA S 21 x1.toNatClampNeg (vp_nar .boolean x4))) H := hP
  have hD : va_D A (cW cI cZ a (sA S 21 x1.toNatClampNeg (vp_nar .boolean x4))) := hD
  exact W.vret hx hb hr (fun t ht hW => ⟨⟨(sA S 21 x1.toNatClampNeg (vp_nar .boolean x4)), rfl, hZ, by rw [ht]; exact hP, va_K.moved hW.alike hK, hD⟩, hS.F ht⟩) hS.2.2 dX0_judge_22 hlocks
def rs_X0_judge_7 (S : St) (x1 : Int32) (x3 : Int32) (x4 : Int32) : St := (rs_X0_judge_14 (sA S 20 x1.toNatClampNeg x3) x1 x4)
def ok_X0_judge_7 (S : St) (x1 : Int32) (x3 : Int32) (x4 : Int32) : Prop := ((vp_in x1 40) ∧ ok_X0_judge_14 (sA S 20 x1.toNatClampNeg x3) x1 x4)
set_option maxHeartbeats 4000000 in
set_option maxRecDepth 100000 in
theorem w_X0_judge_7 {p : Program} {l : Launch} {e : Env} {s : State} {m : MethodId} {args : Array Value} {below : List Frame} {meth : Method} {c : Code} {dC : Nat → ClassId} {dI : Nat → Nat → Nat} {cI cZ : ClassId} {a : Nat → Nat} {A : Nat → Prop} (C0 : Cx p s m args meth c RX0 cX0_judge none 5 wsX0_judge) (hK : va_K (dC, dI) vwCl (tI cI cZ) s) (hA : ∀ q, s.heap.size ≤ q → A q) (Z : St) (S : St) (x1 : Int32) (x3 : Int32) (x4 : Int32) (hok : ok_X0_judge_7 S x1 x3 x4) (hZ : rs_X0_judge_7 S x1 x3 x4 = Z) (H : Heap) (locs : List Loc) (hP : va_P (dC, dI) vwCl (cW cI cZ a S) H) (hD : va_D A (cW cI cZ a S)) (hS : va_S A s.heap H locs) (ls : Array Slot) (hl : lv_has ls 5 [(0, .ref (a 17)), (1, .int x1), (3, .int x3), (4, .int x4)]) : W p l e rm_X0_judge s m args below meth c H locs 0 0 (MQ below (va_Qv (fun u : St => u = Z) (cWB dC dI cI cZ a A) A) args s 0 0 A) (F0 m 7 ls []) := by
  obtain ⟨hx, hb, hr, hml, hown, hts, hlocks⟩ := id C0
  rw [ok_X0_judge_7] at hok
  rw [rs_X0_judge_7] at hZ
  refine lv_aload_n hx hb dX0_judge_7 rfl (lv_at hl 0 rfl) ?_
  refine va_get (D := (dC, dI)) (ci := 0) (v := .ref (a 20)) (C := RX0) (T := TX0) (N := 8) hx hb hts iX0_judge_X0 hown hK hP 17 rfl rfl 2 (by decide) (hts (.fieldLink RX0 18 "RiskHouse$Cases" "path" "[I") (by decide +kernel)) (fun _ h9 => h9) rfl dX0_judge_8 ?_
  refine lv_iload_n hx hb dX0_judge_11 rfl (lv_at hl 1 rfl) ?_
  refine lv_iload_n hx hb dX0_judge_12 rfl (lv_at hl 2 rfl) ?_
  obtain ⟨h_1, hok⟩ := hok
  refine va_iast hx hb hK hP hD hS 20 0 rfl rfl h_1 dX0_judge_13 (fun H locs hP hD hS => ?_)
  have hP : va_P (dC, dI) vwCl (cW cI cZ a (sA S 20 x1.toNatClampNeg x3)) H := hP
  have hD : va_D A (cW cI cZ a (sA S 20 x1.toNatClampNeg x3)) := hD
  exact w_X0_judge_14 C0 hK hA Z (sA S 20 x1.toNatClampNeg x3) x1 x4 hok hZ _ _ hP hD hS _ (lv_sub hl [0, 1, 3] rfl)
def rs_X0_judge (S : St) (x1 : Int32) (x2 : Int32) (x3 : Int32) (x4 : Int32) : St := (rs_X0_judge_7 (sA S 19 x1.toNatClampNeg x2) x1 x3 x4)
def ok_X0_judge (S : St) (x1 : Int32) (x2 : Int32) (x3 : Int32) (x4 : Int32) : Prop := ((vp_in x1 40) ∧ ok_X0_judge_7 (sA S 19 x1.toNatClampNeg x2) x1 x3 x4)
set_option maxHeartbeats 4000000 in
set_option maxRecDepth 100000 in
theorem w_X0_judge {p : Program} {l : Launch} {e : Env} {s : State} {m : MethodId} {args : Array Value} {below : List Frame} {meth : Method} {c : Code} {dC : Nat → ClassId} {dI : Nat → Nat → Nat} {cI cZ : ClassId} {a : Nat → Nat} {A : Nat → Prop} (C0 : Cx p s m args meth c RX0 cX0_judge none 5 wsX0_judge) (hK : va_K (dC, dI) vwCl (tI cI cZ) s) (hA : ∀ q, s.heap.size ≤ q → A q) (Z : St) (S : St) (x1 : Int32) (x2 : Int32) (x3 : Int32) (x4 : Int32) (hok : ok_X0_judge S x1 x2 x3 x4) (hZ : rs_X0_judge S x1 x2 x3 x4 = Z) (H : Heap) (locs : List Loc) (hP : va_P (dC, dI) vwCl (cW cI cZ a S) H) (hD : va_D A (cW cI cZ a S)) (hS : va_S A s.heap H locs) (ls : Array Slot) (hl : lv_has ls 5 [(0, .ref (a 17)), (1, .int x1), (2, .int x2), (3, .int x3), (4, .int x4)]) : W p l e rm_X0_judge s m args below meth c H locs 0 0 (MQ below (va_Qv (fun u : St => u = Z) (cWB dC dI cI cZ a A) A) args s 0 0 A) (F0 m 0 ls []) := by
  obtain ⟨hx, hb, hr, hml, hown, hts, hlocks⟩ := id C0
  rw [ok_X0_judge] at hok
  rw [rs_X0_judge] at hZ
  refine lv_aload_n hx hb dX0_judge_0 rfl (lv_at hl 0 rfl) ?_
  refine va_get (D := (dC, dI)) (ci := 0) (v := .ref (a 19)) (C := RX0) (T := TX0) (N := 8) hx hb hts iX0_judge_X0 hown hK hP 17 rfl rfl 1 (by decide) (hts (.fieldLink RX0 15 "RiskHouse$Cases" "points" "[I") (by decide +kernel)) (fun _ h9 => h9) rfl dX0_judge_1 ?_
  refine lv_iload_n hx hb dX0_judge_4 rfl (lv_at hl 1 rfl) ?_
  refine lv_iload_n hx hb dX0_judge_5 rfl (lv_at hl 2 rfl) ?_
  obtain ⟨h_1, hok⟩ := hok
  refine va_iast hx hb hK hP hD hS 19 0 rfl rfl h_1 dX0_judge_6 (fun H locs hP hD hS => ?_)
  have hP : va_P (dC, dI) vwCl (cW cI cZ a (sA S 19 x1.toNatClampNeg x2)) H := hP
  have hD : va_D A (cW cI cZ a (sA S 19 x1.toNatClampNeg x2)) := hD
  exact w_X0_judge_7 C0 hK hA Z (sA S 19 x1.toNatClampNeg x2) x1 x3 x4 hok hZ _ _ hP hD hS _ (lv_sub hl [0, 1, 3, 4] rfl)
set_option maxHeartbeats 4000000 in
set_option maxRecDepth 100000 in
theorem c_X0_judge (l : Launch) (dC : Nat → ClassId) (dI : Nat → Nat → Nat) (cI cZ : ClassId) (a : Nat → Nat) (sz : Nat) (S : St) (x1 : Int32) (x2 : Int32) (x3 : Int32) (x4 : Int32) (hok : ok_X0_judge S x1 x2 x3 x4) : Met l yX0_judge wsX0_judge rm_X0_judge (va_Pc [.ref (a 17), .int x1, .int x2, .int x3, .int x4] (cWP dC dI cI cZ a sz S)) (va_Qv (fun u : St => u = rs_X0_judge S x1 x2 x3 x4) (cWB dC dI cI cZ a (va_A (cW cI cZ a S) sz)) (va_A (cW cI cZ a S) sz)) 0 0 (va_A (cW cI cZ a S) sz) := by
  refine Met.ofW (cc := cX0_judge) (maxL := 5) (ret := none) (by decide) rfl ?_
  intro p e s m args below meth c s₁ B hml hv
  obtain ⟨rfl, hsz, hP, hK, hD0⟩ := hv
  subst hsz
  have hD := hD0.self (sz := s.heap.size)
  have hl := lv_entry ([.ref (a 17), .int x1, .int x2, .int x3, .int x4]) (n := 5) (Nat.le_of_ble_eq_true rfl)
  rw [lg_entry_eq]
  generalize (lg_sl ([.ref (a 17), .int x1, .int x2, .int x3, .int x4]) ++ List.replicate (5 - (lg_sl ([.ref (a 17), .int x1, .int x2, .int x3, .int x4])).length) Slot.unset).toArray = ls at hl ⊢
  have hl : lv_has ls 5 [(0, .ref (a 17)), (1, .int x1), (2, .int x2), (3, .int x3), (4, .int x4)] := hl
  exact w_X0_judge ⟨B.exec, B.bytes, B.returns, hml, findClass_of_methodNamed B.named, atoms_spec (ws := wsX0_judge) B.pre, B.notSynchronized⟩ hK (fun q h => Or.inr h) _ S x1 x2 x3 x4 hok rfl _ _ hP hD va_S.rf ls hl
abbrev rm_X0_isOpen : Room := { frames := 0, cells := 0, slots := 0, locals := 0 }
theorem iX0_isOpen_X0 : ∀ w ∈ wsX00, w ∈ wsX0_isOpen := by decide +kernel
def rs_X0_isOpen_23 (S : St)  : Int32 × St := (0, S)
def ok_X0_isOpen_23 (S : St)  : Prop := True
set_option maxHeartbeats 4000000 in
set_option maxRecDepth 100000 in
theorem w_X0_isOpen_23 {p : Program} {l : Launch} {e : Env} {s : State} {m : MethodId} {args : Array Value} {below : List Frame} {meth : Method} {c : Code} {dC : Nat → ClassId} {dI : Nat → Nat → Nat} {cI cZ : ClassId} {a : Nat → Nat} {A : Nat → Prop} (C0 : Cx p s m args meth c RX0 cX0_isOpen (some .boolean) 3 wsX0_isOpen) (hK : va_K (dC, dI) vwCl (tI cI cZ) s) (hA : ∀ q, s.heap.size ≤ q → A q) (Z : Int32 × St) (S : St)  (hok : ok_X0_isOpen_23 S) (hZ : rs_X0_isOpen_23 S = Z) (H : Heap) (locs : List Loc) (hP : va_P (dC, dI) vwCl (cW cI cZ a S) H) (hD : va_D A (cW cI cZ a S)) (hS : va_S A s.heap H locs) (ls : Array Slot) (hl : lv_has ls 3 []) : W p l e rm_X0_isOpen s m args below meth c H locs 0 0 (MQ below (va_Qi (fun (r : Int32) (u : St) => (r, u) = Z) (cWB dC dI cI cZ a A) A) args s 0 0 A) (F0 m 23 ls []) := by
  obtain ⟨hx, hb, hr, hml, hown, hts, hlocks⟩ := id C0
  rw [ok_X0_isOpen_23] at hok
  rw [rs_X0_isOpen_23] at hZ
  refine lv_iconst (v := 0) hx hb dX0_isOpen_23 (by decide) ?_
  exact W.zret (v := 0) hx hb hr rfl (fun t ht hW => ⟨⟨0, S, rfl, hZ, by rw [ht]; exact hP, va_K.moved hW.alike hK, hD⟩, hS.F ht⟩) hS.2.2 dX0_isOpen_24 hlocks
def rs_X0_isOpen (S : St) (x1 : Int32) (x2 : Int32) : Int32 × St := (if ((S.2 18) x1.toNatClampNeg) = x2 then (if ((S.2 22) x1.toNatClampNeg) = 0 then (1, S) else (rs_X0_isOpen_23 S)) else (rs_X0_isOpen_23 S))
def ok_X0_isOpen (S : St) (x1 : Int32) (x2 : Int32) : Prop := ((vp_in x1 40) ∧ (if ((S.2 18) x1.toNatClampNeg) = x2 then ((vp_in x1 40) ∧ (if ((S.2 22) x1.toNatClampNeg) = 0 then True else ok_X0_isOpen_23 S)) else ok_X0_isOpen_23 S))
set_option maxHeartbeats 4000000 in
set_option maxRecDepth 100000 in
theorem w_X0_isOpen {p : Program} {l : Launch} {e : Env} {s : State} {m : MethodId} {args : Array Value} {below : List Frame} {meth : Method} {c : Code} {dC : Nat → ClassId} {dI : Nat → Nat → Nat} {cI cZ : ClassId} {a : Nat → Nat} {A : Nat → Prop} (C0 : Cx p s m args meth c RX0 cX0_isOpen (some .boolean) 3 wsX0_isOpen) (hK : va_K (dC, dI) vwCl (tI cI cZ) s) (hA : ∀ q, s.heap.size ≤ q → A q) (Z : Int32 × St) (S : St) (x1 : Int32) (x2 : Int32) (hok : ok_X0_isOpen S x1 x2) (hZ : rs_X0_isOpen S x1 x2 = Z) (H : Heap) (locs : List Loc) (hP : va_P (dC, dI) vwCl (cW cI cZ a S) H) (hD : va_D A (cW cI cZ a S)) (hS : va_S A s.heap H locs) (ls : Array Slot) (hl : lv_has ls 3 [(0, .ref (a 17)), (1, .int x1), (2, .int x2)]) : W p l e rm_X0_isOpen s m args below meth c H locs 0 0 (MQ below (va_Qi (fun (r : Int32) (u : St) => (r, u) = Z) (cWB dC dI cI cZ a A) A) args s 0 0 A) (F0 m 0 ls []) := by
  obtain ⟨hx, hb, hr, hml, hown, hts, hlocks⟩ := id C0
  rw [ok_X0_isOpen] at hok
  rw [rs_X0_isOpen] at hZ
  refine lv_aload_n hx hb dX0_isOpen_0 rfl (lv_at hl 0 rfl) ?_
  refine va_get (D := (dC, dI)) (ci := 0) (v := .ref (a 18)) (C := RX0) (T := TX0) (N := 8) hx hb hts iX0_isOpen_X0 hown hK hP 17 rfl rfl 0 (by decide) (hts (.fieldLink RX0 11 "RiskHouse$Cases" "office" "[I") (by decide +kernel)) (fun _ h9 => h9) rfl dX0_isOpen_1 ?_
  refine lv_iload_n hx hb dX0_isOpen_4 rfl (lv_at hl 1 rfl) ?_
  obtain ⟨h_1, hok⟩ := hok
  refine va_iald (f := (S.2 18)) hx hb hK hP 18 0 rfl rfl h_1 dX0_isOpen_5 ?_
  refine lv_iload_n hx hb dX0_isOpen_6 rfl (lv_at hl 2 rfl) ?_
  refine lv_icmp_ne (tgt := 23) hx hb dX0_isOpen_7 (by decide) (fun c_2 => ?_) (fun c_2 => ?_)
  · have hok := okF hok c_2
    have hZ := rsF hZ c_2
    exact w_X0_isOpen_23 C0 hK hA Z S hok hZ _ _ hP hD hS _ (lv_sub hl [] rfl)
  · have hok := okT hok c_2
    have hZ := rsT hZ c_2
    refine lv_aload_n hx hb dX0_isOpen_10 rfl (lv_at hl 0 rfl) ?_
    refine va_get (D := (dC, dI)) (ci := 0) (v := .ref (a 22)) (C := RX0) (T := TX0) (N := 8) hx hb hts iX0_isOpen_X0 hown hK hP 17 rfl rfl 4 (by decide) (hts (.fieldLink RX0 25 "RiskHouse$Cases" "decided" "[Z") (by decide +kernel)) (fun _ h9 => h9) rfl dX0_isOpen_11 ?_
    refine lv_iload_n hx hb dX0_isOpen_14 rfl (lv_at hl 1 rfl) ?_
    obtain ⟨h_3, hok⟩ := hok
    refine va_zald (f := (S.2 22)) hx hb hK hP 22 1 rfl rfl h_3 dX0_isOpen_15 ?_
    refine lv_if_ne (tgt := 23) hx hb dX0_isOpen_16 (by decide) (fun c_4 => ?_) (fun c_4 => ?_)
    · have hok := okF hok c_4
      have hZ := rsF hZ c_4
      exact w_X0_isOpen_23 C0 hK hA Z S hok hZ _ _ hP hD hS _ (lv_sub hl [] rfl)
    · have hok := okT hok c_4
      have hZ := rsT hZ c_4
      refine lv_iconst (v := 1) hx hb dX0_isOpen_19 (by decide) ?_
      refine lv_goto (tgt := 24) hx hb dX0_isOpen_20 (by decide) ?_
      exact W.zret (v := 1) hx hb hr rfl (fun t ht hW => ⟨⟨1, S, rfl, hZ, by rw [ht]; exact hP, va_K.moved hW.alike hK, hD⟩, hS.F ht⟩) hS.2.2 dX0_isOpen_24 hlocks
set_option maxHeartbeats 4000000 in
set_option maxRecDepth 100000 in
theorem c_X0_isOpen (l : Launch) (dC : Nat → ClassId) (dI : Nat → Nat → Nat) (cI cZ : ClassId) (a : Nat → Nat) (sz : Nat) (S : St) (x1 : Int32) (x2 : Int32) (hok : ok_X0_isOpen S x1 x2) : Met l yX0_isOpen wsX0_isOpen rm_X0_isOpen (va_Pc [.ref (a 17), .int x1, .int x2] (cWP dC dI cI cZ a sz S)) (va_Qi (fun (r : Int32) (u : St) => (r, u) = rs_X0_isOpen S x1 x2) (cWB dC dI cI cZ a (va_A (cW cI cZ a S) sz)) (va_A (cW cI cZ a S) sz)) 0 0 (va_A (cW cI cZ a S) sz) := by
  refine Met.ofW (cc := cX0_isOpen) (maxL := 3) (ret := (some .boolean)) (by decide) rfl ?_
  intro p e s m args below meth c s₁ B hml hv
  obtain ⟨rfl, hsz, hP, hK, hD0⟩ := hv
  subst hsz
  have hD := hD0.self (sz := s.heap.size)
  have hl := lv_entry ([.ref (a 17), .int x1, .int x2]) (n := 3) (Nat.le_of_ble_eq_true rfl)
  rw [lg_entry_eq]
  generalize (lg_sl ([.ref (a 17), .int x1, .int x2]) ++ List.replicate (3 - (lg_sl ([.ref (a 17), .int x1, .int x2])).length) Slot.unset).toArray = ls at hl ⊢
  have hl : lv_has ls 3 [(0, .ref (a 17)), (1, .int x1), (2, .int x2)] := hl
  exact w_X0_isOpen ⟨B.exec, B.bytes, B.returns, hml, findClass_of_methodNamed B.named, atoms_spec (ws := wsX0_isOpen) B.pre, B.notSynchronized⟩ hK (fun q h => Or.inr h) _ S x1 x2 hok rfl _ _ hP hD va_S.rf ls hl
abbrev rm_X0_rank : Room := { frames := 1, cells := 0, slots := 0, locals := 22 }
theorem iX0_rank_X0 : ∀ w ∈ wsX00, w ∈ wsX0_rank := by decide +kernel
def rs_X0_rank_76 (k : St → Int32 → Int32 → Int32 → Int32 × St) (S : St) (x1 : Int32) (x2 : Int32) (x3 : Int32) : Int32 × St := (k S x1 x2 (x3 + 1))
def ok_X0_rank_76 (kk : St → Int32 → Int32 → Int32 → Prop) (S : St) (x1 : Int32) (x2 : Int32) (x3 : Int32) : Prop := kk S x1 x2 (x3 + 1)
set_option maxHeartbeats 4000000 in
set_option maxRecDepth 100000 in
theorem w_X0_rank_76 {p : Program} {l : Launch} {e : Env} {s : State} {m : MethodId} {args : Array Value} {below : List Frame} {meth : Method} {c : Code} {dC : Nat → ClassId} {dI : Nat → Nat → Nat} {cI cZ : ClassId} {a : Nat → Nat} {A : Nat → Prop} (C0 : Cx p s m args meth c RX0 cX0_rank (some .int) 5 wsX0_rank) (hK : va_K (dC, dI) vwCl (tI cI cZ) s) (hA : ∀ q, s.heap.size ≤ q → A q) (Z : Int32 × St) (k : St → Int32 → Int32 → Int32 → Int32 × St) (kk : St → Int32 → Int32 → Int32 → Prop) (hk : ∀ (S : St) (x1 : Int32) (x2 : Int32) (x3 : Int32) (hok : kk S x1 x2 x3) (hZ : k S x1 x2 x3 = Z) (H : Heap) (locs : List Loc) (hP : va_P (dC, dI) vwCl (cW cI cZ a S) H) (hD : va_D A (cW cI cZ a S)) (hS : va_S A s.heap H locs) (ls : Array Slot) (hl : lv_has ls 5 [(0, .ref (a 17)), (1, .int x1), (2, .int x2), (3, .int x3)]), W p l e rm_X0_rank s m args below meth c H locs 0 0 (MQ below (va_Qi (fun (r : Int32) (u : St) => (r, u) = Z) (cWB dC dI cI cZ a A) A) args s 0 0 A) (F0 m 4 ls [])) (S : St) (x1 : Int32) (x2 : Int32) (x3 : Int32) (hok : ok_X0_rank_76 kk S x1 x2 x3) (hZ : rs_X0_rank_76 k S x1 x2 x3 = Z) (H : Heap) (locs : List Loc) (hP : va_P (dC, dI) vwCl (cW cI cZ a S) H) (hD : va_D A (cW cI cZ a S)) (hS : va_S A s.heap H locs) (ls : Array Slot) (hl : lv_has ls 5 [(0, .ref (a 17)), (1, .int x1), (2, .int x2), (3, .int x3)]) : W p l e rm_X0_rank s m args below meth c H locs 0 0 (MQ below (va_Qi (fun (r : Int32) (u : St) => (r, u) = Z) (cWB dC dI cI cZ a A) A) args s 0 0 A) (F0 m 76 ls []) := by
  obtain ⟨hx, hb, hr, hml, hown, hts, hlocks⟩ := id C0
  rw [ok_X0_rank_76] at hok
  rw [rs_X0_rank_76] at hZ
  refine lv_iinc (v := (x3 + 1)) (lv' := [(3, .int (x3 + 1)), (0, .ref (a 17)), (1, .int x1), (2, .int x2)]) hx hb dX0_rank_76 hl (k := 3) rfl rfl (by decide) rfl (fun ls hl => ?_)
  refine lv_goto (tgt := 4) hx hb dX0_rank_79 (by decide) ?_
  exact hk S x1 x2 (x3 + 1) hok hZ _ _ hP hD hS _ (lv_sub hl [1, 2, 3, 0] rfl)
def rs_X0_rank_70 (k : St → Int32 → Int32 → Int32 → Int32 × St) (S : St) (x1 : Int32) (x2 : Int32) (x3 : Int32) (z0 : Int32) : Int32 × St := (if z0 = 0 then (rs_X0_rank_76 k S x1 x2 x3) else (rs_X0_rank_76 k S x1 (x2 + 1) x3))
def ok_X0_rank_70 (kk : St → Int32 → Int32 → Int32 → Prop) (S : St) (x1 : Int32) (x2 : Int32) (x3 : Int32) (z0 : Int32) : Prop := (if z0 = 0 then ok_X0_rank_76 kk S x1 x2 x3 else ok_X0_rank_76 kk S x1 (x2 + 1) x3)
set_option maxHeartbeats 4000000 in
set_option maxRecDepth 100000 in
theorem w_X0_rank_70 {p : Program} {l : Launch} {e : Env} {s : State} {m : MethodId} {args : Array Value} {below : List Frame} {meth : Method} {c : Code} {dC : Nat → ClassId} {dI : Nat → Nat → Nat} {cI cZ : ClassId} {a : Nat → Nat} {A : Nat → Prop} (C0 : Cx p s m args meth c RX0 cX0_rank (some .int) 5 wsX0_rank) (hK : va_K (dC, dI) vwCl (tI cI cZ) s) (hA : ∀ q, s.heap.size ≤ q → A q) (Z : Int32 × St) (k : St → Int32 → Int32 → Int32 → Int32 × St) (kk : St → Int32 → Int32 → Int32 → Prop) (hk : ∀ (S : St) (x1 : Int32) (x2 : Int32) (x3 : Int32) (hok : kk S x1 x2 x3) (hZ : k S x1 x2 x3 = Z) (H : Heap) (locs : List Loc) (hP : va_P (dC, dI) vwCl (cW cI cZ a S) H) (hD : va_D A (cW cI cZ a S)) (hS : va_S A s.heap H locs) (ls : Array Slot) (hl : lv_has ls 5 [(0, .ref (a 17)), (1, .int x1), (2, .int x2), (3, .int x3)]), W p l e rm_X0_rank s m args below meth c H locs 0 0 (MQ below (va_Qi (fun (r : Int32) (u : St) => (r, u) = Z) (cWB dC dI cI cZ a A) A) args s 0 0 A) (F0 m 4 ls [])) (S : St) (x1 : Int32) (x2 : Int32) (x3 : Int32) (z0 : Int32) (hok : ok_X0_rank_70 kk S x1 x2 x3 z0) (hZ : rs_X0_rank_70 k S x1 x2 x3 z0 = Z) (H : Heap) (locs : List Loc) (hP : va_P (dC, dI) vwCl (cW cI cZ a S) H) (hD : va_D A (cW cI cZ a S)) (hS : va_S A s.heap H locs) (ls : Array Slot) (hl : lv_has ls 5 [(0, .ref (a 17)), (1, .int x1), (2, .int x2), (3, .int x3)]) : W p l e rm_X0_rank s m args below meth c H locs 0 0 (MQ below (va_Qi (fun (r : Int32) (u : St) => (r, u) = Z) (cWB dC dI cI cZ a A) A) args s 0 0 A) (F0 m 70 ls [.int z0]) := by
  obtain ⟨hx, hb, hr, hml, hown, hts, hlocks⟩ := id C0
  rw [ok_X0_rank_70] at hok
  rw [rs_X0_rank_70] at hZ
  refine lv_if_eq (tgt := 76) hx hb dX0_rank_70 (by decide) (fun c_1 => ?_) (fun c_1 => ?_)
  · have hok := okT hok c_1
    have hZ := rsT hZ c_1
    exact w_X0_rank_76 C0 hK hA Z k kk hk S x1 x2 x3 hok hZ _ _ hP hD hS _ (lv_sub hl [0, 1, 2, 3] rfl)
  · have hok := okF hok c_1
    have hZ := rsF hZ c_1
    refine lv_iinc (v := (x2 + 1)) (lv' := [(2, .int (x2 + 1)), (0, .ref (a 17)), (1, .int x1), (3, .int x3)]) hx hb dX0_rank_73 hl (k := 2) rfl rfl (by decide) rfl (fun ls hl => ?_)
    exact w_X0_rank_76 C0 hK hA Z k kk hk S x1 (x2 + 1) x3 hok hZ _ _ hP hD hS _ (lv_sub hl [1, 2, 0, 3] rfl)
def rs_X0_rank_52 (k : St → Int32 → Int32 → Int32 → Int32 × St) (S : St) (x1 : Int32) (x2 : Int32) (x3 : Int32) (z0 : Int32) : Int32 × St := (if z0 = 0 then (rs_X0_rank_76 k S x1 x2 x3) else (rs_X0_rank_70 k (rs_X0_isOpen S x3 ((S.2 18) x1.toNatClampNeg)).2 x1 x2 x3 ((rs_X0_isOpen S x3 ((S.2 18) x1.toNatClampNeg)).1)))
def ok_X0_rank_52 (kk : St → Int32 → Int32 → Int32 → Prop) (S : St) (x1 : Int32) (x2 : Int32) (x3 : Int32) (z0 : Int32) : Prop := (if z0 = 0 then ok_X0_rank_76 kk S x1 x2 x3 else ((vp_in x1 40) ∧ ((ok_X0_isOpen S x3 ((S.2 18) x1.toNatClampNeg)) ∧ ok_X0_rank_70 kk (rs_X0_isOpen S x3 ((S.2 18) x1.toNatClampNeg)).2 x1 x2 x3 ((rs_X0_isOpen S x3 ((S.2 18) x1.toNatClampNeg)).1))))
set_option maxHeartbeats 4000000 in
set_option maxRecDepth 100000 in
theorem w_X0_rank_52 {p : Program} {l : Launch} {e : Env} {s : State} {m : MethodId} {args : Array Value} {below : List Frame} {meth : Method} {c : Code} {dC : Nat → ClassId} {dI : Nat → Nat → Nat} {cI cZ : ClassId} {a : Nat → Nat} {A : Nat → Prop} (C0 : Cx p s m args meth c RX0 cX0_rank (some .int) 5 wsX0_rank) (hK : va_K (dC, dI) vwCl (tI cI cZ) s) (hA : ∀ q, s.heap.size ≤ q → A q) (Z : Int32 × St) (k : St → Int32 → Int32 → Int32 → Int32 × St) (kk : St → Int32 → Int32 → Int32 → Prop) (hk : ∀ (S : St) (x1 : Int32) (x2 : Int32) (x3 : Int32) (hok : kk S x1 x2 x3) (hZ : k S x1 x2 x3 = Z) (H : Heap) (locs : List Loc) (hP : va_P (dC, dI) vwCl (cW cI cZ a S) H) (hD : va_D A (cW cI cZ a S)) (hS : va_S A s.heap H locs) (ls : Array Slot) (hl : lv_has ls 5 [(0, .ref (a 17)), (1, .int x1), (2, .int x2), (3, .int x3)]), W p l e rm_X0_rank s m args below meth c H locs 0 0 (MQ below (va_Qi (fun (r : Int32) (u : St) => (r, u) = Z) (cWB dC dI cI cZ a A) A) args s 0 0 A) (F0 m 4 ls [])) (S : St) (x1 : Int32) (x2 : Int32) (x3 : Int32) (z0 : Int32) (hok : ok_X0_rank_52 kk S x1 x2 x3 z0) (hZ : rs_X0_rank_52 k S x1 x2 x3 z0 = Z) (H : Heap) (locs : List Loc) (hP : va_P (dC, dI) vwCl (cW cI cZ a S) H) (hD : va_D A (cW cI cZ a S)) (hS : va_S A s.heap H locs) (ls : Array Slot) (hl : lv_has ls 5 [(0, .ref (a 17)), (1, .int x1), (2, .int x2), (3, .int x3)]) : W p l e rm_X0_rank s m args below meth c H locs 0 0 (MQ below (va_Qi (fun (r : Int32) (u : St) => (r, u) = Z) (cWB dC dI cI cZ a A) A) args s 0 0 A) (F0 m 52 ls [.int z0]) := by
  obtain ⟨hx, hb, hr, hml, hown, hts, hlocks⟩ := id C0
  rw [ok_X0_rank_52] at hok
  rw [rs_X0_rank_52] at hZ
  refine lv_istore (lv' := [(4, .int z0), (0, .ref (a 17)), (1, .int x1), (2, .int x2), (3, .int x3)]) hx hb dX0_rank_52 hl (by decide) rfl (fun ls hl => ?_)
  refine lv_iload hx hb dX0_rank_54 (lv_at hl 0 rfl) ?_
  refine lv_if_eq (tgt := 76) hx hb dX0_rank_56 (by decide) (fun c_1 => ?_) (fun c_1 => ?_)
  · have hok := okT hok c_1
    have hZ := rsT hZ c_1
    exact w_X0_rank_76 C0 hK hA Z k kk hk S x1 x2 x3 hok hZ _ _ hP hD hS _ (lv_sub hl [1, 2, 3, 4] rfl)
  · have hok := okF hok c_1
    have hZ := rsF hZ c_1
    refine lv_aload_n hx hb dX0_rank_59 rfl (lv_at hl 1 rfl) ?_
    refine lv_iload_n hx hb dX0_rank_60 rfl (lv_at hl 4 rfl) ?_
    refine lv_aload_n hx hb dX0_rank_61 rfl (lv_at hl 1 rfl) ?_
    refine va_get (D := (dC, dI)) (ci := 0) (v := .ref (a 18)) (C := RX0) (T := TX0) (N := 8) hx hb hts iX0_rank_X0 hown hK hP 17 rfl rfl 0 (by decide) (hts (.fieldLink RX0 11 "RiskHouse$Cases" "office" "[I") (by decide +kernel)) (fun _ h9 => h9) rfl dX0_rank_62 ?_
    refine lv_iload_n hx hb dX0_rank_65 rfl (lv_at hl 2 rfl) ?_
    obtain ⟨h_2, hok⟩ := hok
    refine va_iald (f := (S.2 18)) hx hb hK hP 18 0 rfl rfl h_2 dX0_rank_66 ?_
    obtain ⟨k_3, hok⟩ := hok
    have hFc := wFw (w := cW cI cZ a S) hD hS hA
    refine va_calli (va_runV (As := [.int x3, .int ((S.2 18) x1.toNatClampNeg)]) (rest := []) ⟨hx, hb, hml, hown, hts⟩ (c_X0_isOpen l dC dI cI cZ a H.size S x3 ((S.2 18) x1.toNatClampNeg) k_3) (cwV 2 hts gX0_rank_X0_isOpen rfl rfl rfl (by decide +kernel) ⟨Nat.le_of_ble_eq_true rfl, Nat.le_of_ble_eq_true rfl⟩) ⟨wBl, va_recv hK hP (ci := 0) (q0 := 17) rfl rfl, fun U hU hW => ⟨rfl, by rw [hU], by rw [hU]; exact hP, va_K.moved hW.alike hK, hD.weaken (fun _ _ _ _ => trivial)⟩⟩ rfl rfl hl.1 rfl (lv_room (Nat.le_of_ble_eq_true rfl)) dX0_rank_67 ⟨Nat.zero_le _, Nat.zero_le _⟩) hS (fun q _ h => hFc q h) hFc (fun r u t H1 locs ht hvm hw hB hz1 hk1 hS => ?_)
    obtain ⟨hP, hD⟩ := wJn ht hFc hB.1 hB.2.2
    have e1 : r = (rs_X0_isOpen S x3 ((S.2 18) x1.toNatClampNeg)).1 := congrArg Prod.fst hw
    have e2 : u = (rs_X0_isOpen S x3 ((S.2 18) x1.toNatClampNeg)).2 := congrArg Prod.snd hw
    rw [e1]
    rw [e2] at hP hD
    generalize H1 = H at hP hS ⊢
    exact w_X0_rank_70 C0 hK hA Z k kk hk (rs_X0_isOpen S x3 ((S.2 18) x1.toNatClampNeg)).2 x1 x2 x3 ((rs_X0_isOpen S x3 ((S.2 18) x1.toNatClampNeg)).1) hok hZ _ _ hP hD hS _ (lv_sub hl [1, 2, 3, 4] rfl)
def rs_X0_rank_47 (k : St → Int32 → Int32 → Int32 → Int32 × St) (S : St) (x1 : Int32) (x2 : Int32) (x3 : Int32) : Int32 × St := (rs_X0_rank_52 k S x1 x2 x3 1)
def ok_X0_rank_47 (kk : St → Int32 → Int32 → Int32 → Prop) (S : St) (x1 : Int32) (x2 : Int32) (x3 : Int32) : Prop := ok_X0_rank_52 kk S x1 x2 x3 1
set_option maxHeartbeats 4000000 in
set_option maxRecDepth 100000 in
theorem w_X0_rank_47 {p : Program} {l : Launch} {e : Env} {s : State} {m : MethodId} {args : Array Value} {below : List Frame} {meth : Method} {c : Code} {dC : Nat → ClassId} {dI : Nat → Nat → Nat} {cI cZ : ClassId} {a : Nat → Nat} {A : Nat → Prop} (C0 : Cx p s m args meth c RX0 cX0_rank (some .int) 5 wsX0_rank) (hK : va_K (dC, dI) vwCl (tI cI cZ) s) (hA : ∀ q, s.heap.size ≤ q → A q) (Z : Int32 × St) (k : St → Int32 → Int32 → Int32 → Int32 × St) (kk : St → Int32 → Int32 → Int32 → Prop) (hk : ∀ (S : St) (x1 : Int32) (x2 : Int32) (x3 : Int32) (hok : kk S x1 x2 x3) (hZ : k S x1 x2 x3 = Z) (H : Heap) (locs : List Loc) (hP : va_P (dC, dI) vwCl (cW cI cZ a S) H) (hD : va_D A (cW cI cZ a S)) (hS : va_S A s.heap H locs) (ls : Array Slot) (hl : lv_has ls 5 [(0, .ref (a 17)), (1, .int x1), (2, .int x2), (3, .int x3)]), W p l e rm_X0_rank s m args below meth c H locs 0 0 (MQ below (va_Qi (fun (r : Int32) (u : St) => (r, u) = Z) (cWB dC dI cI cZ a A) A) args s 0 0 A) (F0 m 4 ls [])) (S : St) (x1 : Int32) (x2 : Int32) (x3 : Int32) (hok : ok_X0_rank_47 kk S x1 x2 x3) (hZ : rs_X0_rank_47 k S x1 x2 x3 = Z) (H : Heap) (locs : List Loc) (hP : va_P (dC, dI) vwCl (cW cI cZ a S) H) (hD : va_D A (cW cI cZ a S)) (hS : va_S A s.heap H locs) (ls : Array Slot) (hl : lv_has ls 5 [(0, .ref (a 17)), (1, .int x1), (2, .int x2), (3, .int x3)]) : W p l e rm_X0_rank s m args below meth c H locs 0 0 (MQ below (va_Qi (fun (r : Int32) (u : St) => (r, u) = Z) (cWB dC dI cI cZ a A) A) args s 0 0 A) (F0 m 47 ls []) := by
  obtain ⟨hx, hb, hr, hml, hown, hts, hlocks⟩ := id C0
  rw [ok_X0_rank_47] at hok
  rw [rs_X0_rank_47] at hZ
  refine lv_iconst (v := 1) hx hb dX0_rank_47 (by decide) ?_
  refine lv_goto (tgt := 52) hx hb dX0_rank_48 (by decide) ?_
  exact w_X0_rank_52 C0 hK hA Z k kk hk S x1 x2 x3 1 hok hZ _ _ hP hD hS _ (lv_sub hl [0, 1, 2, 3] rfl)
def rs_X0_rank_51 (k : St → Int32 → Int32 → Int32 → Int32 × St) (S : St) (x1 : Int32) (x2 : Int32) (x3 : Int32) : Int32 × St := (rs_X0_rank_52 k S x1 x2 x3 0)
def ok_X0_rank_51 (kk : St → Int32 → Int32 → Int32 → Prop) (S : St) (x1 : Int32) (x2 : Int32) (x3 : Int32) : Prop := ok_X0_rank_52 kk S x1 x2 x3 0
set_option maxHeartbeats 4000000 in
set_option maxRecDepth 100000 in
theorem w_X0_rank_51 {p : Program} {l : Launch} {e : Env} {s : State} {m : MethodId} {args : Array Value} {below : List Frame} {meth : Method} {c : Code} {dC : Nat → ClassId} {dI : Nat → Nat → Nat} {cI cZ : ClassId} {a : Nat → Nat} {A : Nat → Prop} (C0 : Cx p s m args meth c RX0 cX0_rank (some .int) 5 wsX0_rank) (hK : va_K (dC, dI) vwCl (tI cI cZ) s) (hA : ∀ q, s.heap.size ≤ q → A q) (Z : Int32 × St) (k : St → Int32 → Int32 → Int32 → Int32 × St) (kk : St → Int32 → Int32 → Int32 → Prop) (hk : ∀ (S : St) (x1 : Int32) (x2 : Int32) (x3 : Int32) (hok : kk S x1 x2 x3) (hZ : k S x1 x2 x3 = Z) (H : Heap) (locs : List Loc) (hP : va_P (dC, dI) vwCl (cW cI cZ a S) H) (hD : va_D A (cW cI cZ a S)) (hS : va_S A s.heap H locs) (ls : Array Slot) (hl : lv_has ls 5 [(0, .ref (a 17)), (1, .int x1), (2, .int x2), (3, .int x3)]), W p l e rm_X0_rank s m args below meth c H locs 0 0 (MQ below (va_Qi (fun (r : Int32) (u : St) => (r, u) = Z) (cWB dC dI cI cZ a A) A) args s 0 0 A) (F0 m 4 ls [])) (S : St) (x1 : Int32) (x2 : Int32) (x3 : Int32) (hok : ok_X0_rank_51 kk S x1 x2 x3) (hZ : rs_X0_rank_51 k S x1 x2 x3 = Z) (H : Heap) (locs : List Loc) (hP : va_P (dC, dI) vwCl (cW cI cZ a S) H) (hD : va_D A (cW cI cZ a S)) (hS : va_S A s.heap H locs) (ls : Array Slot) (hl : lv_has ls 5 [(0, .ref (a 17)), (1, .int x1), (2, .int x2), (3, .int x3)]) : W p l e rm_X0_rank s m args below meth c H locs 0 0 (MQ below (va_Qi (fun (r : Int32) (u : St) => (r, u) = Z) (cWB dC dI cI cZ a A) A) args s 0 0 A) (F0 m 51 ls []) := by
  obtain ⟨hx, hb, hr, hml, hown, hts, hlocks⟩ := id C0
  rw [ok_X0_rank_51] at hok
  rw [rs_X0_rank_51] at hZ
  refine lv_iconst (v := 0) hx hb dX0_rank_51 (by decide) ?_
  exact w_X0_rank_52 C0 hK hA Z k kk hk S x1 x2 x3 0 hok hZ _ _ hP hD hS _ (lv_sub hl [0, 1, 2, 3] rfl)
def rs_X0_rank_4 : Nat → St → Int32 → Int32 → Int32 → Int32 × St
  | 0, S, x1, x2, x3 => (0, S)
  | n + 1, S, x1, x2, x3 => (if (S.1 686) ≤ x3 then (x2, S) else (if ((S.2 19) x1.toNatClampNeg) < ((S.2 19) x3.toNatClampNeg) then (rs_X0_rank_47 (rs_X0_rank_4 n) S x1 x2 x3) else (if ((S.2 19) x3.toNatClampNeg) = ((S.2 19) x1.toNatClampNeg) then (if x1 ≤ x3 then (rs_X0_rank_51 (rs_X0_rank_4 n) S x1 x2 x3) else (rs_X0_rank_47 (rs_X0_rank_4 n) S x1 x2 x3)) else (rs_X0_rank_51 (rs_X0_rank_4 n) S x1 x2 x3))))
def ok_X0_rank_4 : Nat → St → Int32 → Int32 → Int32 → Prop
  | 0, _, _, _, _ => False
  | n + 1, S, x1, x2, x3 => (if (S.1 686) ≤ x3 then True else ((vp_in x3 40) ∧ ((vp_in x1 40) ∧ (if ((S.2 19) x1.toNatClampNeg) < ((S.2 19) x3.toNatClampNeg) then ok_X0_rank_47 (ok_X0_rank_4 n) S x1 x2 x3 else ((vp_in x3 40) ∧ ((vp_in x1 40) ∧ (if ((S.2 19) x3.toNatClampNeg) = ((S.2 19) x1.toNatClampNeg) then (if x1 ≤ x3 then ok_X0_rank_51 (ok_X0_rank_4 n) S x1 x2 x3 else ok_X0_rank_47 (ok_X0_rank_4 n) S x1 x2 x3) else ok_X0_rank_51 (ok_X0_rank_4 n) S x1 x2 x3)))))))
set_option maxHeartbeats 4000000 in
set_option maxRecDepth 100000 in
theorem w_X0_rank_4 {p : Program} {l : Launch} {e : Env} {s : State} {m : MethodId} {args : Array Value} {below : List Frame} {meth : Method} {c : Code} {dC : Nat → ClassId} {dI : Nat → Nat → Nat} {cI cZ : ClassId} {a : Nat → Nat} {A : Nat → Prop} (C0 : Cx p s m args meth c RX0 cX0_rank (some .int) 5 wsX0_rank) (hK : va_K (dC, dI) vwCl (tI cI cZ) s) (hA : ∀ q, s.heap.size ≤ q → A q) (Z : Int32 × St) : ∀ (n : Nat) (S : St) (x1 : Int32) (x2 : Int32) (x3 : Int32) (hok : ok_X0_rank_4 n S x1 x2 x3) (hZ : rs_X0_rank_4 n S x1 x2 x3 = Z) (H : Heap) (locs : List Loc) (hP : va_P (dC, dI) vwCl (cW cI cZ a S) H) (hD : va_D A (cW cI cZ a S)) (hS : va_S A s.heap H locs) (ls : Array Slot) (hl : lv_has ls 5 [(0, .ref (a 17)), (1, .int x1), (2, .int x2), (3, .int x3)]), W p l e rm_X0_rank s m args below meth c H locs 0 0 (MQ below (va_Qi (fun (r : Int32) (u : St) => (r, u) = Z) (cWB dC dI cI cZ a A) A) args s 0 0 A) (F0 m 4 ls []) := by
  obtain ⟨hx, hb, hr, hml, hown, hts, hlocks⟩ := id C0
  intro n
  induction n with
  | zero => intro S x1 x2 x3 hok; exact absurd hok (fun h => h)
  | succ n ih =>
    intro S x1 x2 x3 hok hZ H locs hP hD hS ls hl
    rw [ok_X0_rank_4] at hok
    rw [rs_X0_rank_4] at hZ
    refine lv_iload_n hx hb dX0_rank_4 rfl (lv_at hl 3 rfl) ?_
    refine lv_aload_n hx hb dX0_rank_5 rfl (lv_at hl 0 rfl) ?_
    refine va_get (D := (dC, dI)) (ci := 0) (v := .int (S.1 686)) (C := RX0) (T := TX0) (N := 8) hx hb hts iX0_rank_X0 hown hK hP 17 rfl rfl 6 (by decide) (hts (.fieldLink RX0 31 "RiskHouse$Cases" "size" "I") (by decide +kernel)) (fun _ h9 => h9) rfl dX0_rank_6 ?_
    refine lv_icmp_ge (tgt := 82) hx hb dX0_rank_9 (by decide) (fun c_1 => ?_) (fun c_1 => ?_)
    · have hok := okT hok c_1
      have hZ := rsT hZ c_1
      refine lv_iload_n hx hb dX0_rank_82 rfl (lv_at hl 2 rfl) ?_
      exact W.iret (v := x2) hx hb hr (fun t ht hW => ⟨⟨x2, S, rfl, hZ, by rw [ht]; exact hP, va_K.moved hW.alike hK, hD⟩, hS.F ht⟩) hS.2.2 dX0_rank_83 hlocks
    · have hok := okF hok c_1
      have hZ := rsF hZ c_1
      refine lv_aload_n hx hb dX0_rank_12 rfl (lv_at hl 0 rfl) ?_
      refine va_get (D := (dC, dI)) (ci := 0) (v := .ref (a 19)) (C := RX0) (T := TX0) (N := 8) hx hb hts iX0_rank_X0 hown hK hP 17 rfl rfl 1 (by decide) (hts (.fieldLink RX0 15 "RiskHouse$Cases" "points" "[I") (by decide +kernel)) (fun _ h9 => h9) rfl dX0_rank_13 ?_
      refine lv_iload_n hx hb dX0_rank_16 rfl (lv_at hl 3 rfl) ?_
      obtain ⟨h_2, hok⟩ := hok
      refine va_iald (f := (S.2 19)) hx hb hK hP 19 0 rfl rfl h_2 dX0_rank_17 ?_
      refine lv_aload_n hx hb dX0_rank_18 rfl (lv_at hl 0 rfl) ?_
      refine va_get (D := (dC, dI)) (ci := 0) (v := .ref (a 19)) (C := RX0) (T := TX0) (N := 8) hx hb hts iX0_rank_X0 hown hK hP 17 rfl rfl 1 (by decide) (hts (.fieldLink RX0 15 "RiskHouse$Cases" "points" "[I") (by decide +kernel)) (fun _ h9 => h9) rfl dX0_rank_19 ?_
      refine lv_iload_n hx hb dX0_rank_22 rfl (lv_at hl 1 rfl) ?_
      obtain ⟨h_3, hok⟩ := hok
      refine va_iald (f := (S.2 19)) hx hb hK hP 19 0 rfl rfl h_3 dX0_rank_23 ?_
      refine lv_icmp_gt (tgt := 47) hx hb dX0_rank_24 (by decide) (fun c_4 => ?_) (fun c_4 => ?_)
      · have hok := okT hok c_4
        have hZ := rsT hZ c_4
        exact w_X0_rank_47 C0 hK hA Z (rs_X0_rank_4 n) (ok_X0_rank_4 n) ih S x1 x2 x3 hok hZ _ _ hP hD hS _ (lv_sub hl [0, 1, 2, 3] rfl)
      · have hok := okF hok c_4
        have hZ := rsF hZ c_4
        refine lv_aload_n hx hb dX0_rank_27 rfl (lv_at hl 0 rfl) ?_
        refine va_get (D := (dC, dI)) (ci := 0) (v := .ref (a 19)) (C := RX0) (T := TX0) (N := 8) hx hb hts iX0_rank_X0 hown hK hP 17 rfl rfl 1 (by decide) (hts (.fieldLink RX0 15 "RiskHouse$Cases" "points" "[I") (by decide +kernel)) (fun _ h9 => h9) rfl dX0_rank_28 ?_
        refine lv_iload_n hx hb dX0_rank_31 rfl (lv_at hl 3 rfl) ?_
        obtain ⟨h_5, hok⟩ := hok
        refine va_iald (f := (S.2 19)) hx hb hK hP 19 0 rfl rfl h_5 dX0_rank_32 ?_
        refine lv_aload_n hx hb dX0_rank_33 rfl (lv_at hl 0 rfl) ?_
        refine va_get (D := (dC, dI)) (ci := 0) (v := .ref (a 19)) (C := RX0) (T := TX0) (N := 8) hx hb hts iX0_rank_X0 hown hK hP 17 rfl rfl 1 (by decide) (hts (.fieldLink RX0 15 "RiskHouse$Cases" "points" "[I") (by decide +kernel)) (fun _ h9 => h9) rfl dX0_rank_34 ?_
        refine lv_iload_n hx hb dX0_rank_37 rfl (lv_at hl 1 rfl) ?_
        obtain ⟨h_6, hok⟩ := hok
        refine va_iald (f := (S.2 19)) hx hb hK hP 19 0 rfl rfl h_6 dX0_rank_38 ?_
        refine lv_icmp_ne (tgt := 51) hx hb dX0_rank_39 (by decide) (fun c_7 => ?_) (fun c_7 => ?_)
        · have hok := okF hok c_7
          have hZ := rsF hZ c_7
          exact w_X0_rank_51 C0 hK hA Z (rs_X0_rank_4 n) (ok_X0_rank_4 n) ih S x1 x2 x3 hok hZ _ _ hP hD hS _ (lv_sub hl [0, 1, 2, 3] rfl)
        · have hok := okT hok c_7
          have hZ := rsT hZ c_7
          refine lv_iload_n hx hb dX0_rank_42 rfl (lv_at hl 3 rfl) ?_
          refine lv_iload_n hx hb dX0_rank_43 rfl (lv_at hl 1 rfl) ?_
          refine lv_icmp_ge (tgt := 51) hx hb dX0_rank_44 (by decide) (fun c_8 => ?_) (fun c_8 => ?_)
          · have hok := okT hok c_8
            have hZ := rsT hZ c_8
            exact w_X0_rank_51 C0 hK hA Z (rs_X0_rank_4 n) (ok_X0_rank_4 n) ih S x1 x2 x3 hok hZ _ _ hP hD hS _ (lv_sub hl [0, 1, 2, 3] rfl)
          · have hok := okF hok c_8
            have hZ := rsF hZ c_8
            exact w_X0_rank_47 C0 hK hA Z (rs_X0_rank_4 n) (ok_X0_rank_4 n) ih S x1 x2 x3 hok hZ _ _ hP hD hS _ (lv_sub hl [0, 1, 2, 3] rfl)
def rs_X0_rank (S : St) (x1 : Int32) : Int32 × St := (rs_X0_rank_4 100 S x1 0 0)
def ok_X0_rank (S : St) (x1 : Int32) : Prop := ok_X0_rank_4 100 S x1 0 0
set_option maxHeartbeats 4000000 in
set_option maxRecDepth 100000 in
theorem w_X0_rank {p : Program} {l : Launch} {e : Env} {s : State} {m : MethodId} {args : Array Value} {below : List Frame} {meth : Method} {c : Code} {dC : Nat → ClassId} {dI : Nat → Nat → Nat} {cI cZ : ClassId} {a : Nat → Nat} {A : Nat → Prop} (C0 : Cx p s m args meth c RX0 cX0_rank (some .int) 5 wsX0_rank) (hK : va_K (dC, dI) vwCl (tI cI cZ) s) (hA : ∀ q, s.heap.size ≤ q → A q) (Z : Int32 × St) (S : St) (x1 : Int32) (hok : ok_X0_rank S x1) (hZ : rs_X0_rank S x1 = Z) (H : Heap) (locs : List Loc) (hP : va_P (dC, dI) vwCl (cW cI cZ a S) H) (hD : va_D A (cW cI cZ a S)) (hS : va_S A s.heap H locs) (ls : Array Slot) (hl : lv_has ls 5 [(0, .ref (a 17)), (1, .int x1)]) : W p l e rm_X0_rank s m args below meth c H locs 0 0 (MQ below (va_Qi (fun (r : Int32) (u : St) => (r, u) = Z) (cWB dC dI cI cZ a A) A) args s 0 0 A) (F0 m 0 ls []) := by
  obtain ⟨hx, hb, hr, hml, hown, hts, hlocks⟩ := id C0
  rw [ok_X0_rank] at hok
  rw [rs_X0_rank] at hZ
  refine lv_iconst (v := 0) hx hb dX0_rank_0 (by decide) ?_
  refine lv_istore_n (lv' := [(2, .int 0), (0, .ref (a 17)), (1, .int x1)]) hx hb dX0_rank_1 rfl hl (by decide) rfl (fun ls hl => ?_)
  refine lv_iconst (v := 0) hx hb dX0_rank_2 (by decide) ?_
  refine lv_istore_n (lv' := [(3, .int 0), (2, .int 0), (0, .ref (a 17)), (1, .int x1)]) hx hb dX0_rank_3 rfl hl (by decide) rfl (fun ls hl => ?_)
  exact w_X0_rank_4 C0 hK hA Z 100 S x1 0 0 hok hZ _ _ hP hD hS _ (lv_sub hl [2, 3, 1, 0] rfl)
set_option maxHeartbeats 4000000 in
set_option maxRecDepth 100000 in
theorem c_X0_rank (l : Launch) (dC : Nat → ClassId) (dI : Nat → Nat → Nat) (cI cZ : ClassId) (a : Nat → Nat) (sz : Nat) (S : St) (x1 : Int32) (hok : ok_X0_rank S x1) : Met l yX0_rank wsX0_rank rm_X0_rank (va_Pc [.ref (a 17), .int x1] (cWP dC dI cI cZ a sz S)) (va_Qi (fun (r : Int32) (u : St) => (r, u) = rs_X0_rank S x1) (cWB dC dI cI cZ a (va_A (cW cI cZ a S) sz)) (va_A (cW cI cZ a S) sz)) 0 0 (va_A (cW cI cZ a S) sz) := by
  refine Met.ofW (cc := cX0_rank) (maxL := 5) (ret := (some .int)) (by decide) rfl ?_
  intro p e s m args below meth c s₁ B hml hv
  obtain ⟨rfl, hsz, hP, hK, hD0⟩ := hv
  subst hsz
  have hD := hD0.self (sz := s.heap.size)
  have hl := lv_entry ([.ref (a 17), .int x1]) (n := 5) (Nat.le_of_ble_eq_true rfl)
  rw [lg_entry_eq]
  generalize (lg_sl ([.ref (a 17), .int x1]) ++ List.replicate (5 - (lg_sl ([.ref (a 17), .int x1])).length) Slot.unset).toArray = ls at hl ⊢
  have hl : lv_has ls 5 [(0, .ref (a 17)), (1, .int x1)] := hl
  exact w_X0_rank ⟨B.exec, B.bytes, B.returns, hml, findClass_of_methodNamed B.named, atoms_spec (ws := wsX0_rank) B.pre, B.notSynchronized⟩ hK (fun q h => Or.inr h) _ S x1 hok rfl _ _ hP hD va_S.rf ls hl
abbrev rm_X0_cutPaths : Room := { frames := 2, cells := 0, slots := 0, locals := 46 }
theorem iX0_cutPaths_X0 : ∀ w ∈ wsX00, w ∈ wsX0_cutPaths := by decide +kernel
def rs_X0_cutPaths_45 (k : St → Int32 → Int32 → Int32 → St) (S : St) (x1 : Int32) (x2 : Int32) (x3 : Int32) : St := (k S x1 x2 (x3 + 1))
def ok_X0_cutPaths_45 (kk : St → Int32 → Int32 → Int32 → Prop) (S : St) (x1 : Int32) (x2 : Int32) (x3 : Int32) : Prop := kk S x1 x2 (x3 + 1)
set_option maxHeartbeats 4000000 in
set_option maxRecDepth 100000 in
theorem w_X0_cutPaths_45 {p : Program} {l : Launch} {e : Env} {s : State} {m : MethodId} {args : Array Value} {below : List Frame} {meth : Method} {c : Code} {dC : Nat → ClassId} {dI : Nat → Nat → Nat} {cI cZ : ClassId} {a : Nat → Nat} {A : Nat → Prop} (C0 : Cx p s m args meth c RX0 cX0_cutPaths none 4 wsX0_cutPaths) (hK : va_K (dC, dI) vwCl (tI cI cZ) s) (hA : ∀ q, s.heap.size ≤ q → A q) (Z : St) (k : St → Int32 → Int32 → Int32 → St) (kk : St → Int32 → Int32 → Int32 → Prop) (hk : ∀ (S : St) (x1 : Int32) (x2 : Int32) (x3 : Int32) (hok : kk S x1 x2 x3) (hZ : k S x1 x2 x3 = Z) (H : Heap) (locs : List Loc) (hP : va_P (dC, dI) vwCl (cW cI cZ a S) H) (hD : va_D A (cW cI cZ a S)) (hS : va_S A s.heap H locs) (ls : Array Slot) (hl : lv_has ls 4 [(0, .ref (a 17)), (1, .int x1), (2, .int x2), (3, .int x3)]), W p l e rm_X0_cutPaths s m args below meth c H locs 0 0 (MQ below (va_Qv (fun u : St => u = Z) (cWB dC dI cI cZ a A) A) args s 0 0 A) (F0 m 2 ls [])) (S : St) (x1 : Int32) (x2 : Int32) (x3 : Int32) (hok : ok_X0_cutPaths_45 kk S x1 x2 x3) (hZ : rs_X0_cutPaths_45 k S x1 x2 x3 = Z) (H : Heap) (locs : List Loc) (hP : va_P (dC, dI) vwCl (cW cI cZ a S) H) (hD : va_D A (cW cI cZ a S)) (hS : va_S A s.heap H locs) (ls : Array Slot) (hl : lv_has ls 4 [(0, .ref (a 17)), (1, .int x1), (2, .int x2), (3, .int x3)]) : W p l e rm_X0_cutPaths s m args below meth c H locs 0 0 (MQ below (va_Qv (fun u : St => u = Z) (cWB dC dI cI cZ a A) A) args s 0 0 A) (F0 m 45 ls []) := by
  obtain ⟨hx, hb, hr, hml, hown, hts, hlocks⟩ := id C0
  rw [ok_X0_cutPaths_45] at hok
  rw [rs_X0_cutPaths_45] at hZ
  refine lv_iinc (v := (x3 + 1)) (lv' := [(3, .int (x3 + 1)), (0, .ref (a 17)), (1, .int x1), (2, .int x2)]) hx hb dX0_cutPaths_45 hl (k := 3) rfl rfl (by decide) rfl (fun ls hl => ?_)
  refine lv_goto (tgt := 2) hx hb dX0_cutPaths_48 (by decide) ?_
  exact hk S x1 x2 (x3 + 1) hok hZ _ _ hP hD hS _ (lv_sub hl [1, 2, 3, 0] rfl)
def rs_X0_cutPaths_34 (k : St → Int32 → Int32 → Int32 → St) (S : St) (x1 : Int32) (x2 : Int32) (x3 : Int32) (z0 : Int32) : St := (if z0 < x2 then (rs_X0_cutPaths_45 k S x1 x2 x3) else (rs_X0_cutPaths_45 k (sA S 20 x3.toNatClampNeg 1) x1 x2 x3))
def ok_X0_cutPaths_34 (kk : St → Int32 → Int32 → Int32 → Prop) (S : St) (x1 : Int32) (x2 : Int32) (x3 : Int32) (z0 : Int32) : Prop := (if z0 < x2 then ok_X0_cutPaths_45 kk S x1 x2 x3 else ((vp_in x3 40) ∧ ok_X0_cutPaths_45 kk (sA S 20 x3.toNatClampNeg 1) x1 x2 x3))
set_option maxHeartbeats 4000000 in
set_option maxRecDepth 100000 in
theorem w_X0_cutPaths_34 {p : Program} {l : Launch} {e : Env} {s : State} {m : MethodId} {args : Array Value} {below : List Frame} {meth : Method} {c : Code} {dC : Nat → ClassId} {dI : Nat → Nat → Nat} {cI cZ : ClassId} {a : Nat → Nat} {A : Nat → Prop} (C0 : Cx p s m args meth c RX0 cX0_cutPaths none 4 wsX0_cutPaths) (hK : va_K (dC, dI) vwCl (tI cI cZ) s) (hA : ∀ q, s.heap.size ≤ q → A q) (Z : St) (k : St → Int32 → Int32 → Int32 → St) (kk : St → Int32 → Int32 → Int32 → Prop) (hk : ∀ (S : St) (x1 : Int32) (x2 : Int32) (x3 : Int32) (hok : kk S x1 x2 x3) (hZ : k S x1 x2 x3 = Z) (H : Heap) (locs : List Loc) (hP : va_P (dC, dI) vwCl (cW cI cZ a S) H) (hD : va_D A (cW cI cZ a S)) (hS : va_S A s.heap H locs) (ls : Array Slot) (hl : lv_has ls 4 [(0, .ref (a 17)), (1, .int x1), (2, .int x2), (3, .int x3)]), W p l e rm_X0_cutPaths s m args below meth c H locs 0 0 (MQ below (va_Qv (fun u : St => u = Z) (cWB dC dI cI cZ a A) A) args s 0 0 A) (F0 m 2 ls [])) (S : St) (x1 : Int32) (x2 : Int32) (x3 : Int32) (z0 : Int32) (hok : ok_X0_cutPaths_34 kk S x1 x2 x3 z0) (hZ : rs_X0_cutPaths_34 k S x1 x2 x3 z0 = Z) (H : Heap) (locs : List Loc) (hP : va_P (dC, dI) vwCl (cW cI cZ a S) H) (hD : va_D A (cW cI cZ a S)) (hS : va_S A s.heap H locs) (ls : Array Slot) (hl : lv_has ls 4 [(0, .ref (a 17)), (1, .int x1), (2, .int x2), (3, .int x3)]) : W p l e rm_X0_cutPaths s m args below meth c H locs 0 0 (MQ below (va_Qv (fun u : St => u = Z) (cWB dC dI cI cZ a A) A) args s 0 0 A) (F0 m 34 ls [.int z0]) := by
  obtain ⟨hx, hb, hr, hml, hown, hts, hlocks⟩ := id C0
  rw [ok_X0_cutPaths_34] at hok
  rw [rs_X0_cutPaths_34] at hZ
  refine lv_iload_n hx hb dX0_cutPaths_34 rfl (lv_at hl 2 rfl) ?_
  refine lv_icmp_lt (tgt := 45) hx hb dX0_cutPaths_35 (by decide) (fun c_1 => ?_) (fun c_1 => ?_)
  · have hok := okT hok c_1
    have hZ := rsT hZ c_1
    exact w_X0_cutPaths_45 C0 hK hA Z k kk hk S x1 x2 x3 hok hZ _ _ hP hD hS _ (lv_sub hl [0, 1, 2, 3] rfl)
  · have hok := okF hok c_1
    have hZ := rsF hZ c_1
    refine lv_aload_n hx hb dX0_cutPaths_38 rfl (lv_at hl 0 rfl) ?_
    refine va_get (D := (dC, dI)) (ci := 0) (v := .ref (a 20)) (C := RX0) (T := TX0) (N := 8) hx hb hts iX0_cutPaths_X0 hown hK hP 17 rfl rfl 2 (by decide) (hts (.fieldLink RX0 18 "RiskHouse$Cases" "path" "[I") (by decide +kernel)) (fun _ h9 => h9) rfl dX0_cutPaths_39 ?_
    refine lv_iload_n hx hb dX0_cutPaths_42 rfl (lv_at hl 3 rfl) ?_
    refine lv_iconst (v := 1) hx hb dX0_cutPaths_43 (by decide) ?_
    obtain ⟨h_2, hok⟩ := hok
    refine va_iast hx hb hK hP hD hS 20 0 rfl rfl h_2 dX0_cutPaths_44 (fun H locs hP hD hS => ?_)
    have hP : va_P (dC, dI) vwCl (cW cI cZ a (sA S 20 x3.toNatClampNeg 1)) H := hP
    have hD : va_D A (cW cI cZ a (sA S 20 x3.toNatClampNeg 1)) := hD
    exact w_X0_cutPaths_45 C0 hK hA Z k kk hk (sA S 20 x3.toNatClampNeg 1) x1 x2 x3 hok hZ _ _ hP hD hS _ (lv_sub hl [0, 1, 2, 3] rfl)
def rs_X0_cutPaths_16 (k : St → Int32 → Int32 → Int32 → St) (S : St) (x1 : Int32) (x2 : Int32) (x3 : Int32) (z0 : Int32) : St := (if z0 = 0 then (rs_X0_cutPaths_45 k S x1 x2 x3) else (if ((S.2 20) x3.toNatClampNeg) < 2 then (rs_X0_cutPaths_45 k S x1 x2 x3) else (rs_X0_cutPaths_34 k (rs_X0_rank S x3).2 x1 x2 x3 ((rs_X0_rank S x3).1))))
def ok_X0_cutPaths_16 (kk : St → Int32 → Int32 → Int32 → Prop) (S : St) (x1 : Int32) (x2 : Int32) (x3 : Int32) (z0 : Int32) : Prop := (if z0 = 0 then ok_X0_cutPaths_45 kk S x1 x2 x3 else ((vp_in x3 40) ∧ (if ((S.2 20) x3.toNatClampNeg) < 2 then ok_X0_cutPaths_45 kk S x1 x2 x3 else ((ok_X0_rank S x3) ∧ ok_X0_cutPaths_34 kk (rs_X0_rank S x3).2 x1 x2 x3 ((rs_X0_rank S x3).1)))))
set_option maxHeartbeats 4000000 in
set_option maxRecDepth 100000 in
theorem w_X0_cutPaths_16 {p : Program} {l : Launch} {e : Env} {s : State} {m : MethodId} {args : Array Value} {below : List Frame} {meth : Method} {c : Code} {dC : Nat → ClassId} {dI : Nat → Nat → Nat} {cI cZ : ClassId} {a : Nat → Nat} {A : Nat → Prop} (C0 : Cx p s m args meth c RX0 cX0_cutPaths none 4 wsX0_cutPaths) (hK : va_K (dC, dI) vwCl (tI cI cZ) s) (hA : ∀ q, s.heap.size ≤ q → A q) (Z : St) (k : St → Int32 → Int32 → Int32 → St) (kk : St → Int32 → Int32 → Int32 → Prop) (hk : ∀ (S : St) (x1 : Int32) (x2 : Int32) (x3 : Int32) (hok : kk S x1 x2 x3) (hZ : k S x1 x2 x3 = Z) (H : Heap) (locs : List Loc) (hP : va_P (dC, dI) vwCl (cW cI cZ a S) H) (hD : va_D A (cW cI cZ a S)) (hS : va_S A s.heap H locs) (ls : Array Slot) (hl : lv_has ls 4 [(0, .ref (a 17)), (1, .int x1), (2, .int x2), (3, .int x3)]), W p l e rm_X0_cutPaths s m args below meth c H locs 0 0 (MQ below (va_Qv (fun u : St => u = Z) (cWB dC dI cI cZ a A) A) args s 0 0 A) (F0 m 2 ls [])) (S : St) (x1 : Int32) (x2 : Int32) (x3 : Int32) (z0 : Int32) (hok : ok_X0_cutPaths_16 kk S x1 x2 x3 z0) (hZ : rs_X0_cutPaths_16 k S x1 x2 x3 z0 = Z) (H : Heap) (locs : List Loc) (hP : va_P (dC, dI) vwCl (cW cI cZ a S) H) (hD : va_D A (cW cI cZ a S)) (hS : va_S A s.heap H locs) (ls : Array Slot) (hl : lv_has ls 4 [(0, .ref (a 17)), (1, .int x1), (2, .int x2), (3, .int x3)]) : W p l e rm_X0_cutPaths s m args below meth c H locs 0 0 (MQ below (va_Qv (fun u : St => u = Z) (cWB dC dI cI cZ a A) A) args s 0 0 A) (F0 m 16 ls [.int z0]) := by
  obtain ⟨hx, hb, hr, hml, hown, hts, hlocks⟩ := id C0
  rw [ok_X0_cutPaths_16] at hok
  rw [rs_X0_cutPaths_16] at hZ
  refine lv_if_eq (tgt := 45) hx hb dX0_cutPaths_16 (by decide) (fun c_1 => ?_) (fun c_1 => ?_)
  · have hok := okT hok c_1
    have hZ := rsT hZ c_1
    exact w_X0_cutPaths_45 C0 hK hA Z k kk hk S x1 x2 x3 hok hZ _ _ hP hD hS _ (lv_sub hl [0, 1, 2, 3] rfl)
  · have hok := okF hok c_1
    have hZ := rsF hZ c_1
    refine lv_aload_n hx hb dX0_cutPaths_19 rfl (lv_at hl 0 rfl) ?_
    refine va_get (D := (dC, dI)) (ci := 0) (v := .ref (a 20)) (C := RX0) (T := TX0) (N := 8) hx hb hts iX0_cutPaths_X0 hown hK hP 17 rfl rfl 2 (by decide) (hts (.fieldLink RX0 18 "RiskHouse$Cases" "path" "[I") (by decide +kernel)) (fun _ h9 => h9) rfl dX0_cutPaths_20 ?_
    refine lv_iload_n hx hb dX0_cutPaths_23 rfl (lv_at hl 3 rfl) ?_
    obtain ⟨h_2, hok⟩ := hok
    refine va_iald (f := (S.2 20)) hx hb hK hP 20 0 rfl rfl h_2 dX0_cutPaths_24 ?_
    refine lv_iconst (v := 2) hx hb dX0_cutPaths_25 (by decide) ?_
    refine lv_icmp_lt (tgt := 45) hx hb dX0_cutPaths_26 (by decide) (fun c_3 => ?_) (fun c_3 => ?_)
    · have hok := okT hok c_3
      have hZ := rsT hZ c_3
      exact w_X0_cutPaths_45 C0 hK hA Z k kk hk S x1 x2 x3 hok hZ _ _ hP hD hS _ (lv_sub hl [0, 1, 2, 3] rfl)
    · have hok := okF hok c_3
      have hZ := rsF hZ c_3
      refine lv_aload_n hx hb dX0_cutPaths_29 rfl (lv_at hl 0 rfl) ?_
      refine lv_iload_n hx hb dX0_cutPaths_30 rfl (lv_at hl 3 rfl) ?_
      obtain ⟨k_4, hok⟩ := hok
      have hFc := wFw (w := cW cI cZ a S) hD hS hA
      refine va_calli (va_runV (As := [.int x3]) (rest := []) ⟨hx, hb, hml, hown, hts⟩ (c_X0_rank l dC dI cI cZ a H.size S x3 k_4) (cwV 1 hts gX0_cutPaths_X0_rank rfl rfl rfl (by decide +kernel) ⟨Nat.le_of_ble_eq_true rfl, Nat.le_of_ble_eq_true rfl⟩) ⟨wBl, va_recv hK hP (ci := 0) (q0 := 17) rfl rfl, fun U hU hW => ⟨rfl, by rw [hU], by rw [hU]; exact hP, va_K.moved hW.alike hK, hD.weaken (fun _ _ _ _ => trivial)⟩⟩ rfl rfl hl.1 rfl (lv_room (Nat.le_of_ble_eq_true rfl)) dX0_cutPaths_31 ⟨Nat.zero_le _, Nat.zero_le _⟩) hS (fun q _ h => hFc q h) hFc (fun r u t H1 locs ht hvm hw hB hz1 hk1 hS => ?_)
      obtain ⟨hP, hD⟩ := wJn ht hFc hB.1 hB.2.2
      have e1 : r = (rs_X0_rank S x3).1 := congrArg Prod.fst hw
      have e2 : u = (rs_X0_rank S x3).2 := congrArg Prod.snd hw
      rw [e1]
      rw [e2] at hP hD
      generalize H1 = H at hP hS ⊢
      exact w_X0_cutPaths_34 C0 hK hA Z k kk hk (rs_X0_rank S x3).2 x1 x2 x3 ((rs_X0_rank S x3).1) hok hZ _ _ hP hD hS _ (lv_sub hl [0, 1, 2, 3] rfl)
def rs_X0_cutPaths_2 : Nat → St → Int32 → Int32 → Int32 → St
  | 0, S, x1, x2, x3 => S
  | n + 1, S, x1, x2, x3 => (if (S.1 686) ≤ x3 then S else (rs_X0_cutPaths_16 (rs_X0_cutPaths_2 n) (rs_X0_isOpen S x3 x1).2 x1 x2 x3 ((rs_X0_isOpen S x3 x1).1)))
def ok_X0_cutPaths_2 : Nat → St → Int32 → Int32 → Int32 → Prop
  | 0, _, _, _, _ => False
  | n + 1, S, x1, x2, x3 => (if (S.1 686) ≤ x3 then True else ((ok_X0_isOpen S x3 x1) ∧ ok_X0_cutPaths_16 (ok_X0_cutPaths_2 n) (rs_X0_isOpen S x3 x1).2 x1 x2 x3 ((rs_X0_isOpen S x3 x1).1)))
set_option maxHeartbeats 4000000 in
set_option maxRecDepth 100000 in
theorem w_X0_cutPaths_2 {p : Program} {l : Launch} {e : Env} {s : State} {m : MethodId} {args : Array Value} {below : List Frame} {meth : Method} {c : Code} {dC : Nat → ClassId} {dI : Nat → Nat → Nat} {cI cZ : ClassId} {a : Nat → Nat} {A : Nat → Prop} (C0 : Cx p s m args meth c RX0 cX0_cutPaths none 4 wsX0_cutPaths) (hK : va_K (dC, dI) vwCl (tI cI cZ) s) (hA : ∀ q, s.heap.size ≤ q → A q) (Z : St) : ∀ (n : Nat) (S : St) (x1 : Int32) (x2 : Int32) (x3 : Int32) (hok : ok_X0_cutPaths_2 n S x1 x2 x3) (hZ : rs_X0_cutPaths_2 n S x1 x2 x3 = Z) (H : Heap) (locs : List Loc) (hP : va_P (dC, dI) vwCl (cW cI cZ a S) H) (hD : va_D A (cW cI cZ a S)) (hS : va_S A s.heap H locs) (ls : Array Slot) (hl : lv_has ls 4 [(0, .ref (a 17)), (1, .int x1), (2, .int x2), (3, .int x3)]), W p l e rm_X0_cutPaths s m args below meth c H locs 0 0 (MQ below (va_Qv (fun u : St => u = Z) (cWB dC dI cI cZ a A) A) args s 0 0 A) (F0 m 2 ls []) := by
  obtain ⟨hx, hb, hr, hml, hown, hts, hlocks⟩ := id C0
  intro n
  induction n with
  | zero => intro S x1 x2 x3 hok; exact absurd hok (fun h => h)
  | succ n ih =>
    intro S x1 x2 x3 hok hZ H locs hP hD hS ls hl
    rw [ok_X0_cutPaths_2] at hok
    rw [rs_X0_cutPaths_2] at hZ
    refine lv_iload_n hx hb dX0_cutPaths_2 rfl (lv_at hl 3 rfl) ?_
    refine lv_aload_n hx hb dX0_cutPaths_3 rfl (lv_at hl 0 rfl) ?_
    refine va_get (D := (dC, dI)) (ci := 0) (v := .int (S.1 686)) (C := RX0) (T := TX0) (N := 8) hx hb hts iX0_cutPaths_X0 hown hK hP 17 rfl rfl 6 (by decide) (hts (.fieldLink RX0 31 "RiskHouse$Cases" "size" "I") (by decide +kernel)) (fun _ h9 => h9) rfl dX0_cutPaths_4 ?_
    refine lv_icmp_ge (tgt := 51) hx hb dX0_cutPaths_7 (by decide) (fun c_1 => ?_) (fun c_1 => ?_)
    · have hok := okT hok c_1
      have hZ := rsT hZ c_1
      exact W.vret hx hb hr (fun t ht hW => ⟨⟨S, rfl, hZ, by rw [ht]; exact hP, va_K.moved hW.alike hK, hD⟩, hS.F ht⟩) hS.2.2 dX0_cutPaths_51 hlocks
    · have hok := okF hok c_1
      have hZ := rsF hZ c_1
      refine lv_aload_n hx hb dX0_cutPaths_10 rfl (lv_at hl 0 rfl) ?_
      refine lv_iload_n hx hb dX0_cutPaths_11 rfl (lv_at hl 3 rfl) ?_
      refine lv_iload_n hx hb dX0_cutPaths_12 rfl (lv_at hl 1 rfl) ?_
      obtain ⟨k_2, hok⟩ := hok
      have hFc := wFw (w := cW cI cZ a S) hD hS hA
      refine va_calli (va_runV (As := [.int x3, .int x1]) (rest := []) ⟨hx, hb, hml, hown, hts⟩ (c_X0_isOpen l dC dI cI cZ a H.size S x3 x1 k_2) (cwV 2 hts gX0_cutPaths_X0_isOpen rfl rfl rfl (by decide +kernel) ⟨Nat.le_of_ble_eq_true rfl, Nat.le_of_ble_eq_true rfl⟩) ⟨wBl, va_recv hK hP (ci := 0) (q0 := 17) rfl rfl, fun U hU hW => ⟨rfl, by rw [hU], by rw [hU]; exact hP, va_K.moved hW.alike hK, hD.weaken (fun _ _ _ _ => trivial)⟩⟩ rfl rfl hl.1 rfl (lv_room (Nat.le_of_ble_eq_true rfl)) dX0_cutPaths_13 ⟨Nat.zero_le _, Nat.zero_le _⟩) hS (fun q _ h => hFc q h) hFc (fun r u t H1 locs ht hvm hw hB hz1 hk1 hS => ?_)
      obtain ⟨hP, hD⟩ := wJn ht hFc hB.1 hB.2.2
      have e1 : r = (rs_X0_isOpen S x3 x1).1 := congrArg Prod.fst hw
      have e2 : u = (rs_X0_isOpen S x3 x1).2 := congrArg Prod.snd hw
      rw [e1]
      rw [e2] at hP hD
      generalize H1 = H at hP hS ⊢
      exact w_X0_cutPaths_16 C0 hK hA Z (rs_X0_cutPaths_2 n) (ok_X0_cutPaths_2 n) ih (rs_X0_isOpen S x3 x1).2 x1 x2 x3 ((rs_X0_isOpen S x3 x1).1) hok hZ _ _ hP hD hS _ (lv_sub hl [0, 1, 2, 3] rfl)
def rs_X0_cutPaths (S : St) (x1 : Int32) (x2 : Int32) : St := (rs_X0_cutPaths_2 100 S x1 x2 0)
def ok_X0_cutPaths (S : St) (x1 : Int32) (x2 : Int32) : Prop := ok_X0_cutPaths_2 100 S x1 x2 0
set_option maxHeartbeats 4000000 in
set_option maxRecDepth 100000 in
theorem w_X0_cutPaths {p : Program} {l : Launch} {e : Env} {s : State} {m : MethodId} {args : Array Value} {below : List Frame} {meth : Method} {c : Code} {dC : Nat → ClassId} {dI : Nat → Nat → Nat} {cI cZ : ClassId} {a : Nat → Nat} {A : Nat → Prop} (C0 : Cx p s m args meth c RX0 cX0_cutPaths none 4 wsX0_cutPaths) (hK : va_K (dC, dI) vwCl (tI cI cZ) s) (hA : ∀ q, s.heap.size ≤ q → A q) (Z : St) (S : St) (x1 : Int32) (x2 : Int32) (hok : ok_X0_cutPaths S x1 x2) (hZ : rs_X0_cutPaths S x1 x2 = Z) (H : Heap) (locs : List Loc) (hP : va_P (dC, dI) vwCl (cW cI cZ a S) H) (hD : va_D A (cW cI cZ a S)) (hS : va_S A s.heap H locs) (ls : Array Slot) (hl : lv_has ls 4 [(0, .ref (a 17)), (1, .int x1), (2, .int x2)]) : W p l e rm_X0_cutPaths s m args below meth c H locs 0 0 (MQ below (va_Qv (fun u : St => u = Z) (cWB dC dI cI cZ a A) A) args s 0 0 A) (F0 m 0 ls []) := by
  obtain ⟨hx, hb, hr, hml, hown, hts, hlocks⟩ := id C0
  rw [ok_X0_cutPaths] at hok
  rw [rs_X0_cutPaths] at hZ
  refine lv_iconst (v := 0) hx hb dX0_cutPaths_0 (by decide) ?_
  refine lv_istore_n (lv' := [(3, .int 0), (0, .ref (a 17)), (1, .int x1), (2, .int x2)]) hx hb dX0_cutPaths_1 rfl hl (by decide) rfl (fun ls hl => ?_)
  exact w_X0_cutPaths_2 C0 hK hA Z 100 S x1 x2 0 hok hZ _ _ hP hD hS _ (lv_sub hl [1, 2, 3, 0] rfl)
set_option maxHeartbeats 4000000 in
set_option maxRecDepth 100000 in
theorem c_X0_cutPaths (l : Launch) (dC : Nat → ClassId) (dI : Nat → Nat → Nat) (cI cZ : ClassId) (a : Nat → Nat) (sz : Nat) (S : St) (x1 : Int32) (x2 : Int32) (hok : ok_X0_cutPaths S x1 x2) : Met l yX0_cutPaths wsX0_cutPaths rm_X0_cutPaths (va_Pc [.ref (a 17), .int x1, .int x2] (cWP dC dI cI cZ a sz S)) (va_Qv (fun u : St => u = rs_X0_cutPaths S x1 x2) (cWB dC dI cI cZ a (va_A (cW cI cZ a S) sz)) (va_A (cW cI cZ a S) sz)) 0 0 (va_A (cW cI cZ a S) sz) := by
  refine Met.ofW (cc := cX0_cutPaths) (maxL := 4) (ret := none) (by decide) rfl ?_
  intro p e s m args below meth c s₁ B hml hv
  obtain ⟨rfl, hsz, hP, hK, hD0⟩ := hv
  subst hsz
  have hD := hD0.self (sz := s.heap.size)
  have hl := lv_entry ([.ref (a 17), .int x1, .int x2]) (n := 4) (Nat.le_of_ble_eq_true rfl)
  rw [lg_entry_eq]
  generalize (lg_sl ([.ref (a 17), .int x1, .int x2]) ++ List.replicate (4 - (lg_sl ([.ref (a 17), .int x1, .int x2])).length) Slot.unset).toArray = ls at hl ⊢
  have hl : lv_has ls 4 [(0, .ref (a 17)), (1, .int x1), (2, .int x2)] := hl
  exact w_X0_cutPaths ⟨B.exec, B.bytes, B.returns, hml, findClass_of_methodNamed B.named, atoms_spec (ws := wsX0_cutPaths) B.pre, B.notSynchronized⟩ hK (fun q h => Or.inr h) _ S x1 x2 hok rfl _ _ hP hD va_S.rf ls hl
abbrev rm_X0_close : Room := { frames := 1, cells := 0, slots := 0, locals := 22 }
theorem iX0_close_X0 : ∀ w ∈ wsX00, w ∈ wsX0_close := by decide +kernel
def rs_X0_close_31 (k : St → Int32 → Int32 → Int32 → Int32 × St) (S : St) (x1 : Int32) (x2 : Int32) (x3 : Int32) : Int32 × St := (k S x1 x2 (x3 + 1))
def ok_X0_close_31 (kk : St → Int32 → Int32 → Int32 → Prop) (S : St) (x1 : Int32) (x2 : Int32) (x3 : Int32) : Prop := kk S x1 x2 (x3 + 1)
set_option maxHeartbeats 4000000 in
set_option maxRecDepth 100000 in
theorem w_X0_close_31 {p : Program} {l : Launch} {e : Env} {s : State} {m : MethodId} {args : Array Value} {below : List Frame} {meth : Method} {c : Code} {dC : Nat → ClassId} {dI : Nat → Nat → Nat} {cI cZ : ClassId} {a : Nat → Nat} {A : Nat → Prop} (C0 : Cx p s m args meth c RX0 cX0_close (some .int) 4 wsX0_close) (hK : va_K (dC, dI) vwCl (tI cI cZ) s) (hA : ∀ q, s.heap.size ≤ q → A q) (Z : Int32 × St) (k : St → Int32 → Int32 → Int32 → Int32 × St) (kk : St → Int32 → Int32 → Int32 → Prop) (hk : ∀ (S : St) (x1 : Int32) (x2 : Int32) (x3 : Int32) (hok : kk S x1 x2 x3) (hZ : k S x1 x2 x3 = Z) (H : Heap) (locs : List Loc) (hP : va_P (dC, dI) vwCl (cW cI cZ a S) H) (hD : va_D A (cW cI cZ a S)) (hS : va_S A s.heap H locs) (ls : Array Slot) (hl : lv_has ls 4 [(0, .ref (a 17)), (1, .int x1), (2, .int x2), (3, .int x3)]), W p l e rm_X0_close s m args below meth c H locs 0 0 (MQ below (va_Qi (fun (r : Int32) (u : St) => (r, u) = Z) (cWB dC dI cI cZ a A) A) args s 0 0 A) (F0 m 4 ls [])) (S : St) (x1 : Int32) (x2 : Int32) (x3 : Int32) (hok : ok_X0_close_31 kk S x1 x2 x3) (hZ : rs_X0_close_31 k S x1 x2 x3 = Z) (H : Heap) (locs : List Loc) (hP : va_P (dC, dI) vwCl (cW cI cZ a S) H) (hD : va_D A (cW cI cZ a S)) (hS : va_S A s.heap H locs) (ls : Array Slot) (hl : lv_has ls 4 [(0, .ref (a 17)), (1, .int x1), (2, .int x2), (3, .int x3)]) : W p l e rm_X0_close s m args below meth c H locs 0 0 (MQ below (va_Qi (fun (r : Int32) (u : St) => (r, u) = Z) (cWB dC dI cI cZ a A) A) args s 0 0 A) (F0 m 31 ls []) := by
  obtain ⟨hx, hb, hr, hml, hown, hts, hlocks⟩ := id C0
  rw [ok_X0_close_31] at hok
  rw [rs_X0_close_31] at hZ
  refine lv_iinc (v := (x3 + 1)) (lv' := [(3, .int (x3 + 1)), (0, .ref (a 17)), (1, .int x1), (2, .int x2)]) hx hb dX0_close_31 hl (k := 3) rfl rfl (by decide) rfl (fun ls hl => ?_)
  refine lv_goto (tgt := 4) hx hb dX0_close_34 (by decide) ?_
  exact hk S x1 x2 (x3 + 1) hok hZ _ _ hP hD hS _ (lv_sub hl [1, 2, 3, 0] rfl)
def rs_X0_close_18 (k : St → Int32 → Int32 → Int32 → Int32 × St) (S : St) (x1 : Int32) (x2 : Int32) (x3 : Int32) (z0 : Int32) : Int32 × St := (if z0 = 0 then (rs_X0_close_31 k S x1 x2 x3) else (rs_X0_close_31 k (sA S 22 x3.toNatClampNeg (vp_nar .boolean 1)) x1 (x2 + 1) x3))
def ok_X0_close_18 (kk : St → Int32 → Int32 → Int32 → Prop) (S : St) (x1 : Int32) (x2 : Int32) (x3 : Int32) (z0 : Int32) : Prop := (if z0 = 0 then ok_X0_close_31 kk S x1 x2 x3 else ((vp_in x3 40) ∧ ok_X0_close_31 kk (sA S 22 x3.toNatClampNeg (vp_nar .boolean 1)) x1 (x2 + 1) x3))
set_option maxHeartbeats 4000000 in
set_option maxRecDepth 100000 in
theorem w_X0_close_18 {p : Program} {l : Launch} {e : Env} {s : State} {m : MethodId} {args : Array Value} {below : List Frame} {meth : Method} {c : Code} {dC : Nat → ClassId} {dI : Nat → Nat → Nat} {cI cZ : ClassId} {a : Nat → Nat} {A : Nat → Prop} (C0 : Cx p s m args meth c RX0 cX0_close (some .int) 4 wsX0_close) (hK : va_K (dC, dI) vwCl (tI cI cZ) s) (hA : ∀ q, s.heap.size ≤ q → A q) (Z : Int32 × St) (k : St → Int32 → Int32 → Int32 → Int32 × St) (kk : St → Int32 → Int32 → Int32 → Prop) (hk : ∀ (S : St) (x1 : Int32) (x2 : Int32) (x3 : Int32) (hok : kk S x1 x2 x3) (hZ : k S x1 x2 x3 = Z) (H : Heap) (locs : List Loc) (hP : va_P (dC, dI) vwCl (cW cI cZ a S) H) (hD : va_D A (cW cI cZ a S)) (hS : va_S A s.heap H locs) (ls : Array Slot) (hl : lv_has ls 4 [(0, .ref (a 17)), (1, .int x1), (2, .int x2), (3, .int x3)]), W p l e rm_X0_close s m args below meth c H locs 0 0 (MQ below (va_Qi (fun (r : Int32) (u : St) => (r, u) = Z) (cWB dC dI cI cZ a A) A) args s 0 0 A) (F0 m 4 ls [])) (S : St) (x1 : Int32) (x2 : Int32) (x3 : Int32) (z0 : Int32) (hok : ok_X0_close_18 kk S x1 x2 x3 z0) (hZ : rs_X0_close_18 k S x1 x2 x3 z0 = Z) (H : Heap) (locs : List Loc) (hP : va_P (dC, dI) vwCl (cW cI cZ a S) H) (hD : va_D A (cW cI cZ a S)) (hS : va_S A s.heap H locs) (ls : Array Slot) (hl : lv_has ls 4 [(0, .ref (a 17)), (1, .int x1), (2, .int x2), (3, .int x3)]) : W p l e rm_X0_close s m args below meth c H locs 0 0 (MQ below (va_Qi (fun (r : Int32) (u : St) => (r, u) = Z) (cWB dC dI cI cZ a A) A) args s 0 0 A) (F0 m 18 ls [.int z0]) := by
  obtain ⟨hx, hb, hr, hml, hown, hts, hlocks⟩ := id C0
  rw [ok_X0_close_18] at hok
  rw [rs_X0_close_18] at hZ
  refine lv_if_eq (tgt := 31) hx hb dX0_close_18 (by decide) (fun c_1 => ?_) (fun c_1 => ?_)
  · have hok := okT hok c_1
    have hZ := rsT hZ c_1
    exact w_X0_close_31 C0 hK hA Z k kk hk S x1 x2 x3 hok hZ _ _ hP hD hS _ (lv_sub hl [0, 1, 2, 3] rfl)
  · have hok := okF hok c_1
    have hZ := rsF hZ c_1
    refine lv_aload_n hx hb dX0_close_21 rfl (lv_at hl 0 rfl) ?_
    refine va_get (D := (dC, dI)) (ci := 0) (v := .ref (a 22)) (C := RX0) (T := TX0) (N := 8) hx hb hts iX0_close_X0 hown hK hP 17 rfl rfl 4 (by decide) (hts (.fieldLink RX0 25 "RiskHouse$Cases" "decided" "[Z") (by decide +kernel)) (fun _ h9 => h9) rfl dX0_close_22 ?_
    refine lv_iload_n hx hb dX0_close_25 rfl (lv_at hl 3 rfl) ?_
    refine lv_iconst (v := 1) hx hb dX0_close_26 (by decide) ?_
    obtain ⟨h_2, hok⟩ := hok
    refine va_zast hx hb hK hP hD hS 22 1 rfl rfl h_2 dX0_close_27 (fun H locs hP hD hS => ?_)
    have hP : va_P (dC, dI) vwCl (cW cI cZ a (sA S 22 x3.toNatClampNeg (vp_nar .boolean 1))) H := hP
    have hD : va_D A (cW cI cZ a (sA S 22 x3.toNatClampNeg (vp_nar .boolean 1))) := hD
    refine lv_iinc (v := (x2 + 1)) (lv' := [(2, .int (x2 + 1)), (0, .ref (a 17)), (1, .int x1), (3, .int x3)]) hx hb dX0_close_28 hl (k := 2) rfl rfl (by decide) rfl (fun ls hl => ?_)
    exact w_X0_close_31 C0 hK hA Z k kk hk (sA S 22 x3.toNatClampNeg (vp_nar .boolean 1)) x1 (x2 + 1) x3 hok hZ _ _ hP hD hS _ (lv_sub hl [1, 2, 0, 3] rfl)
def rs_X0_close_4 : Nat → St → Int32 → Int32 → Int32 → Int32 × St
  | 0, S, x1, x2, x3 => (0, S)
  | n + 1, S, x1, x2, x3 => (if (S.1 686) ≤ x3 then (x2, (sI S 687 ((S.1 687) + x2))) else (rs_X0_close_18 (rs_X0_close_4 n) (rs_X0_isOpen S x3 x1).2 x1 x2 x3 ((rs_X0_isOpen S x3 x1).1)))
def ok_X0_close_4 : Nat → St → Int32 → Int32 → Int32 → Prop
  | 0, _, _, _, _ => False
  | n + 1, S, x1, x2, x3 => (if (S.1 686) ≤ x3 then True else ((ok_X0_isOpen S x3 x1) ∧ ok_X0_close_18 (ok_X0_close_4 n) (rs_X0_isOpen S x3 x1).2 x1 x2 x3 ((rs_X0_isOpen S x3 x1).1)))
set_option maxHeartbeats 4000000 in
set_option maxRecDepth 100000 in
theorem w_X0_close_4 {p : Program} {l : Launch} {e : Env} {s : State} {m : MethodId} {args : Array Value} {below : List Frame} {meth : Method} {c : Code} {dC : Nat → ClassId} {dI : Nat → Nat → Nat} {cI cZ : ClassId} {a : Nat → Nat} {A : Nat → Prop} (C0 : Cx p s m args meth c RX0 cX0_close (some .int) 4 wsX0_close) (hK : va_K (dC, dI) vwCl (tI cI cZ) s) (hA : ∀ q, s.heap.size ≤ q → A q) (Z : Int32 × St) : ∀ (n : Nat) (S : St) (x1 : Int32) (x2 : Int32) (x3 : Int32) (hok : ok_X0_close_4 n S x1 x2 x3) (hZ : rs_X0_close_4 n S x1 x2 x3 = Z) (H : Heap) (locs : List Loc) (hP : va_P (dC, dI) vwCl (cW cI cZ a S) H) (hD : va_D A (cW cI cZ a S)) (hS : va_S A s.heap H locs) (ls : Array Slot) (hl : lv_has ls 4 [(0, .ref (a 17)), (1, .int x1), (2, .int x2), (3, .int x3)]), W p l e rm_X0_close s m args below meth c H locs 0 0 (MQ below (va_Qi (fun (r : Int32) (u : St) => (r, u) = Z) (cWB dC dI cI cZ a A) A) args s 0 0 A) (F0 m 4 ls []) := by
  obtain ⟨hx, hb, hr, hml, hown, hts, hlocks⟩ := id C0
  intro n
  induction n with
  | zero => intro S x1 x2 x3 hok; exact absurd hok (fun h => h)
  | succ n ih =>
    intro S x1 x2 x3 hok hZ H locs hP hD hS ls hl
    rw [ok_X0_close_4] at hok
    rw [rs_X0_close_4] at hZ
    refine lv_iload_n hx hb dX0_close_4 rfl (lv_at hl 3 rfl) ?_
    refine lv_aload_n hx hb dX0_close_5 rfl (lv_at hl 0 rfl) ?_
    refine va_get (D := (dC, dI)) (ci := 0) (v := .int (S.1 686)) (C := RX0) (T := TX0) (N := 8) hx hb hts iX0_close_X0 hown hK hP 17 rfl rfl 6 (by decide) (hts (.fieldLink RX0 31 "RiskHouse$Cases" "size" "I") (by decide +kernel)) (fun _ h9 => h9) rfl dX0_close_6 ?_
    refine lv_icmp_ge (tgt := 37) hx hb dX0_close_9 (by decide) (fun c_1 => ?_) (fun c_1 => ?_)
    · have hok := okT hok c_1
      have hZ := rsT hZ c_1
      refine lv_aload_n hx hb dX0_close_37 rfl (lv_at hl 0 rfl) ?_
      refine lv_dup hx hb dX0_close_38 rfl ?_
      refine va_get (D := (dC, dI)) (ci := 0) (v := .int (S.1 687)) (C := RX0) (T := TX0) (N := 8) hx hb hts iX0_close_X0 hown hK hP 17 rfl rfl 7 (by decide) (hts (.fieldLink RX0 43 "RiskHouse$Cases" "closed" "I") (by decide +kernel)) (fun _ h9 => h9) rfl dX0_close_39 ?_
      refine lv_iload_n hx hb dX0_close_42 rfl (lv_at hl 2 rfl) ?_
      refine lv_iadd hx hb dX0_close_43 ?_
      refine va_put (D := (dC, dI)) (ci := 0) (v := .int ((S.1 687) + x2)) (ty := .int) (C := RX0) (T := TX0) (N := 8) hx hb hts iX0_close_X0 tyX0 tyX0_ok nmX0 hown hK hP hD hS 17 rfl rfl 7 (by decide) (hts (.fieldLink RX0 43 "RiskHouse$Cases" "closed" "I") (by decide +kernel)) (fun _ h9 => h9) rfl (by decide +kernel) rfl rfl (Nat.le_of_ble_eq_true rfl) dX0_close_44 (fun H locs hP hD hS => ?_)
      have hP : va_P (dC, dI) vwCl (cW cI cZ a (sI S 687 ((S.1 687) + x2))) H := hP
      have hD : va_D A (cW cI cZ a (sI S 687 ((S.1 687) + x2))) := hD
      refine lv_iload_n hx hb dX0_close_47 rfl (lv_at hl 2 rfl) ?_
      exact W.iret (v := x2) hx hb hr (fun t ht hW => ⟨⟨x2, (sI S 687 ((S.1 687) + x2)), rfl, hZ, by rw [ht]; exact hP, va_K.moved hW.alike hK, hD⟩, hS.F ht⟩) hS.2.2 dX0_close_48 hlocks
    · have hok := okF hok c_1
      have hZ := rsF hZ c_1
      refine lv_aload_n hx hb dX0_close_12 rfl (lv_at hl 0 rfl) ?_
      refine lv_iload_n hx hb dX0_close_13 rfl (lv_at hl 3 rfl) ?_
      refine lv_iload_n hx hb dX0_close_14 rfl (lv_at hl 1 rfl) ?_
      obtain ⟨k_2, hok⟩ := hok
      have hFc := wFw (w := cW cI cZ a S) hD hS hA
      refine va_calli (va_runV (As := [.int x3, .int x1]) (rest := []) ⟨hx, hb, hml, hown, hts⟩ (c_X0_isOpen l dC dI cI cZ a H.size S x3 x1 k_2) (cwV 2 hts gX0_close_X0_isOpen rfl rfl rfl (by decide +kernel) ⟨Nat.le_of_ble_eq_true rfl, Nat.le_of_ble_eq_true rfl⟩) ⟨wBl, va_recv hK hP (ci := 0) (q0 := 17) rfl rfl, fun U hU hW => ⟨rfl, by rw [hU], by rw [hU]; exact hP, va_K.moved hW.alike hK, hD.weaken (fun _ _ _ _ => trivial)⟩⟩ rfl rfl hl.1 rfl (lv_room (Nat.le_of_ble_eq_true rfl)) dX0_close_15 ⟨Nat.zero_le _, Nat.zero_le _⟩) hS (fun q _ h => hFc q h) hFc (fun r u t H1 locs ht hvm hw hB hz1 hk1 hS => ?_)
      obtain ⟨hP, hD⟩ := wJn ht hFc hB.1 hB.2.2
      have e1 : r = (rs_X0_isOpen S x3 x1).1 := congrArg Prod.fst hw
      have e2 : u = (rs_X0_isOpen S x3 x1).2 := congrArg Prod.snd hw
      rw [e1]
      rw [e2] at hP hD
      generalize H1 = H at hP hS ⊢
      exact w_X0_close_18 C0 hK hA Z (rs_X0_close_4 n) (ok_X0_close_4 n) ih (rs_X0_isOpen S x3 x1).2 x1 x2 x3 ((rs_X0_isOpen S x3 x1).1) hok hZ _ _ hP hD hS _ (lv_sub hl [0, 1, 2, 3] rfl)
def rs_X0_close (S : St) (x1 : Int32) : Int32 × St := (rs_X0_close_4 100 S x1 0 0)
def ok_X0_close (S : St) (x1 : Int32) : Prop := ok_X0_close_4 100 S x1 0 0
set_option maxHeartbeats 4000000 in
set_option maxRecDepth 100000 in
theorem w_X0_close {p : Program} {l : Launch} {e : Env} {s : State} {m : MethodId} {args : Array Value} {below : List Frame} {meth : Method} {c : Code} {dC : Nat → ClassId} {dI : Nat → Nat → Nat} {cI cZ : ClassId} {a : Nat → Nat} {A : Nat → Prop} (C0 : Cx p s m args meth c RX0 cX0_close (some .int) 4 wsX0_close) (hK : va_K (dC, dI) vwCl (tI cI cZ) s) (hA : ∀ q, s.heap.size ≤ q → A q) (Z : Int32 × St) (S : St) (x1 : Int32) (hok : ok_X0_close S x1) (hZ : rs_X0_close S x1 = Z) (H : Heap) (locs : List Loc) (hP : va_P (dC, dI) vwCl (cW cI cZ a S) H) (hD : va_D A (cW cI cZ a S)) (hS : va_S A s.heap H locs) (ls : Array Slot) (hl : lv_has ls 4 [(0, .ref (a 17)), (1, .int x1)]) : W p l e rm_X0_close s m args below meth c H locs 0 0 (MQ below (va_Qi (fun (r : Int32) (u : St) => (r, u) = Z) (cWB dC dI cI cZ a A) A) args s 0 0 A) (F0 m 0 ls []) := by
  obtain ⟨hx, hb, hr, hml, hown, hts, hlocks⟩ := id C0
  rw [ok_X0_close] at hok
  rw [rs_X0_close] at hZ
  refine lv_iconst (v := 0) hx hb dX0_close_0 (by decide) ?_
  refine lv_istore_n (lv' := [(2, .int 0), (0, .ref (a 17)), (1, .int x1)]) hx hb dX0_close_1 rfl hl (by decide) rfl (fun ls hl => ?_)
  refine lv_iconst (v := 0) hx hb dX0_close_2 (by decide) ?_
  refine lv_istore_n (lv' := [(3, .int 0), (2, .int 0), (0, .ref (a 17)), (1, .int x1)]) hx hb dX0_close_3 rfl hl (by decide) rfl (fun ls hl => ?_)
  exact w_X0_close_4 C0 hK hA Z 100 S x1 0 0 hok hZ _ _ hP hD hS _ (lv_sub hl [2, 3, 1, 0] rfl)
set_option maxHeartbeats 4000000 in
set_option maxRecDepth 100000 in
theorem c_X0_close (l : Launch) (dC : Nat → ClassId) (dI : Nat → Nat → Nat) (cI cZ : ClassId) (a : Nat → Nat) (sz : Nat) (S : St) (x1 : Int32) (hok : ok_X0_close S x1) : Met l yX0_close wsX0_close rm_X0_close (va_Pc [.ref (a 17), .int x1] (cWP dC dI cI cZ a sz S)) (va_Qi (fun (r : Int32) (u : St) => (r, u) = rs_X0_close S x1) (cWB dC dI cI cZ a (va_A (cW cI cZ a S) sz)) (va_A (cW cI cZ a S) sz)) 0 0 (va_A (cW cI cZ a S) sz) := by
  refine Met.ofW (cc := cX0_close) (maxL := 4) (ret := (some .int)) (by decide) rfl ?_
  intro p e s m args below meth c s₁ B hml hv
  obtain ⟨rfl, hsz, hP, hK, hD0⟩ := hv
  subst hsz
  have hD := hD0.self (sz := s.heap.size)
  have hl := lv_entry ([.ref (a 17), .int x1]) (n := 4) (Nat.le_of_ble_eq_true rfl)
  rw [lg_entry_eq]
  generalize (lg_sl ([.ref (a 17), .int x1]) ++ List.replicate (4 - (lg_sl ([.ref (a 17), .int x1])).length) Slot.unset).toArray = ls at hl ⊢
  have hl : lv_has ls 4 [(0, .ref (a 17)), (1, .int x1)] := hl
  exact w_X0_close ⟨B.exec, B.bytes, B.returns, hml, findClass_of_methodNamed B.named, atoms_spec (ws := wsX0_close) B.pre, B.notSynchronized⟩ hK (fun q h => Or.inr h) _ S x1 hok rfl _ _ hP hD va_S.rf ls hl
abbrev rm_X0_answer : Room := { frames := 0, cells := 0, slots := 0, locals := 0 }
theorem iX0_answer_X0 : ∀ w ∈ wsX00, w ∈ wsX0_answer := by decide +kernel
def rs_X0_answer (S : St) (x1 : Int32) (x2 : Int32) : Int32 × St := (if x2 = 0 then (((S.2 18) x1.toNatClampNeg), S) else (if x2 = 1 then (((S.2 19) x1.toNatClampNeg), S) else (if x2 = 2 then (if ((S.2 22) x1.toNatClampNeg) = 0 then ((-1), S) else (((S.2 20) x1.toNatClampNeg), S)) else (if x2 = 3 then (if ((S.2 21) x1.toNatClampNeg) = 0 then (0, S) else (1, S)) else (((S.2 23) x1.toNatClampNeg), S)))))
def ok_X0_answer (S : St) (x1 : Int32) (x2 : Int32) : Prop := (if x2 = 0 then ((vp_in x1 40) ∧ True) else (if x2 = 1 then ((vp_in x1 40) ∧ True) else (if x2 = 2 then ((vp_in x1 40) ∧ (if ((S.2 22) x1.toNatClampNeg) = 0 then True else ((vp_in x1 40) ∧ True))) else (if x2 = 3 then ((vp_in x1 40) ∧ (if ((S.2 21) x1.toNatClampNeg) = 0 then True else True)) else ((vp_in x1 40) ∧ True)))))
set_option maxHeartbeats 4000000 in
set_option maxRecDepth 100000 in
theorem w_X0_answer {p : Program} {l : Launch} {e : Env} {s : State} {m : MethodId} {args : Array Value} {below : List Frame} {meth : Method} {c : Code} {dC : Nat → ClassId} {dI : Nat → Nat → Nat} {cI cZ : ClassId} {a : Nat → Nat} {A : Nat → Prop} (C0 : Cx p s m args meth c RX0 cX0_answer (some .int) 3 wsX0_answer) (hK : va_K (dC, dI) vwCl (tI cI cZ) s) (hA : ∀ q, s.heap.size ≤ q → A q) (Z : Int32 × St) (S : St) (x1 : Int32) (x2 : Int32) (hok : ok_X0_answer S x1 x2) (hZ : rs_X0_answer S x1 x2 = Z) (H : Heap) (locs : List Loc) (hP : va_P (dC, dI) vwCl (cW cI cZ a S) H) (hD : va_D A (cW cI cZ a S)) (hS : va_S A s.heap H locs) (ls : Array Slot) (hl : lv_has ls 3 [(0, .ref (a 17)), (1, .int x1), (2, .int x2)]) : W p l e rm_X0_answer s m args below meth c H locs 0 0 (MQ below (va_Qi (fun (r : Int32) (u : St) => (r, u) = Z) (cWB dC dI cI cZ a A) A) args s 0 0 A) (F0 m 0 ls []) := by
  obtain ⟨hx, hb, hr, hml, hown, hts, hlocks⟩ := id C0
  rw [ok_X0_answer] at hok
  rw [rs_X0_answer] at hZ
  refine lv_iload_n hx hb dX0_answer_0 rfl (lv_at hl 2 rfl) ?_
  by_cases c_9_k0 : x2 = 0
  · have hok := okT hok c_9_k0
    have hZ := rsT hZ c_9_k0
    refine lv_tableIn (off := 31) (tgt := 32) hx hb dX0_answer_1 (by rw [c_9_k0]; decide) (by rw [c_9_k0]; decide) (by rw [c_9_k0]; rfl) (by decide) ?_
    refine lv_aload_n hx hb dX0_answer_32 rfl (lv_at hl 0 rfl) ?_
    refine va_get (D := (dC, dI)) (ci := 0) (v := .ref (a 18)) (C := RX0) (T := TX0) (N := 8) hx hb hts iX0_answer_X0 hown hK hP 17 rfl rfl 0 (by decide) (hts (.fieldLink RX0 11 "RiskHouse$Cases" "office" "[I") (by decide +kernel)) (fun _ h9 => h9) rfl dX0_answer_33 ?_
    refine lv_iload_n hx hb dX0_answer_36 rfl (lv_at hl 1 rfl) ?_
    obtain ⟨h_1, hok⟩ := hok
    refine va_iald (f := (S.2 18)) hx hb hK hP 18 0 rfl rfl h_1 dX0_answer_37 ?_
    exact W.iret (v := ((S.2 18) x1.toNatClampNeg)) hx hb hr (fun t ht hW => ⟨⟨((S.2 18) x1.toNatClampNeg), S, rfl, hZ, by rw [ht]; exact hP, va_K.moved hW.alike hK, hD⟩, hS.F ht⟩) hS.2.2 dX0_answer_38 hlocks
  · have hok := okF hok c_9_k0
    have hZ := rsF hZ c_9_k0
    by_cases c_9_k1 : x2 = 1
    · have hok := okT hok c_9_k1
      have hZ := rsT hZ c_9_k1
      refine lv_tableIn (off := 38) (tgt := 39) hx hb dX0_answer_1 (by rw [c_9_k1]; decide) (by rw [c_9_k1]; decide) (by rw [c_9_k1]; rfl) (by decide) ?_
      refine lv_aload_n hx hb dX0_answer_39 rfl (lv_at hl 0 rfl) ?_
      refine va_get (D := (dC, dI)) (ci := 0) (v := .ref (a 19)) (C := RX0) (T := TX0) (N := 8) hx hb hts iX0_answer_X0 hown hK hP 17 rfl rfl 1 (by decide) (hts (.fieldLink RX0 15 "RiskHouse$Cases" "points" "[I") (by decide +kernel)) (fun _ h9 => h9) rfl dX0_answer_40 ?_
      refine lv_iload_n hx hb dX0_answer_43 rfl (lv_at hl 1 rfl) ?_
      obtain ⟨h_2, hok⟩ := hok
      refine va_iald (f := (S.2 19)) hx hb hK hP 19 0 rfl rfl h_2 dX0_answer_44 ?_
      exact W.iret (v := ((S.2 19) x1.toNatClampNeg)) hx hb hr (fun t ht hW => ⟨⟨((S.2 19) x1.toNatClampNeg), S, rfl, hZ, by rw [ht]; exact hP, va_K.moved hW.alike hK, hD⟩, hS.F ht⟩) hS.2.2 dX0_answer_45 hlocks
    · have hok := okF hok c_9_k1
      have hZ := rsF hZ c_9_k1
      by_cases c_9_k2 : x2 = 2
      · have hok := okT hok c_9_k2
        have hZ := rsT hZ c_9_k2
        refine lv_tableIn (off := 45) (tgt := 46) hx hb dX0_answer_1 (by rw [c_9_k2]; decide) (by rw [c_9_k2]; decide) (by rw [c_9_k2]; rfl) (by decide) ?_
        refine lv_aload_n hx hb dX0_answer_46 rfl (lv_at hl 0 rfl) ?_
        refine va_get (D := (dC, dI)) (ci := 0) (v := .ref (a 22)) (C := RX0) (T := TX0) (N := 8) hx hb hts iX0_answer_X0 hown hK hP 17 rfl rfl 4 (by decide) (hts (.fieldLink RX0 25 "RiskHouse$Cases" "decided" "[Z") (by decide +kernel)) (fun _ h9 => h9) rfl dX0_answer_47 ?_
        refine lv_iload_n hx hb dX0_answer_50 rfl (lv_at hl 1 rfl) ?_
        obtain ⟨h_3, hok⟩ := hok
        refine va_zald (f := (S.2 22)) hx hb hK hP 22 1 rfl rfl h_3 dX0_answer_51 ?_
        refine lv_if_eq (tgt := 64) hx hb dX0_answer_52 (by decide) (fun c_4 => ?_) (fun c_4 => ?_)
        · have hok := okT hok c_4
          have hZ := rsT hZ c_4
          refine lv_iconst (v := (-1)) hx hb dX0_answer_64 (by decide) ?_
          exact W.iret (v := (-1)) hx hb hr (fun t ht hW => ⟨⟨(-1), S, rfl, hZ, by rw [ht]; exact hP, va_K.moved hW.alike hK, hD⟩, hS.F ht⟩) hS.2.2 dX0_answer_65 hlocks
        · have hok := okF hok c_4
          have hZ := rsF hZ c_4
          refine lv_aload_n hx hb dX0_answer_55 rfl (lv_at hl 0 rfl) ?_
          refine va_get (D := (dC, dI)) (ci := 0) (v := .ref (a 20)) (C := RX0) (T := TX0) (N := 8) hx hb hts iX0_answer_X0 hown hK hP 17 rfl rfl 2 (by decide) (hts (.fieldLink RX0 18 "RiskHouse$Cases" "path" "[I") (by decide +kernel)) (fun _ h9 => h9) rfl dX0_answer_56 ?_
          refine lv_iload_n hx hb dX0_answer_59 rfl (lv_at hl 1 rfl) ?_
          obtain ⟨h_5, hok⟩ := hok
          refine va_iald (f := (S.2 20)) hx hb hK hP 20 0 rfl rfl h_5 dX0_answer_60 ?_
          refine lv_goto (tgt := 65) hx hb dX0_answer_61 (by decide) ?_
          exact W.iret (v := ((S.2 20) x1.toNatClampNeg)) hx hb hr (fun t ht hW => ⟨⟨((S.2 20) x1.toNatClampNeg), S, rfl, hZ, by rw [ht]; exact hP, va_K.moved hW.alike hK, hD⟩, hS.F ht⟩) hS.2.2 dX0_answer_65 hlocks
      · have hok := okF hok c_9_k2
        have hZ := rsF hZ c_9_k2
        by_cases c_9_k3 : x2 = 3
        · have hok := okT hok c_9_k3
          have hZ := rsT hZ c_9_k3
          refine lv_tableIn (off := 65) (tgt := 66) hx hb dX0_answer_1 (by rw [c_9_k3]; decide) (by rw [c_9_k3]; decide) (by rw [c_9_k3]; rfl) (by decide) ?_
          refine lv_aload_n hx hb dX0_answer_66 rfl (lv_at hl 0 rfl) ?_
          refine va_get (D := (dC, dI)) (ci := 0) (v := .ref (a 21)) (C := RX0) (T := TX0) (N := 8) hx hb hts iX0_answer_X0 hown hK hP 17 rfl rfl 3 (by decide) (hts (.fieldLink RX0 21 "RiskHouse$Cases" "byChance" "[Z") (by decide +kernel)) (fun _ h9 => h9) rfl dX0_answer_67 ?_
          refine lv_iload_n hx hb dX0_answer_70 rfl (lv_at hl 1 rfl) ?_
          obtain ⟨h_6, hok⟩ := hok
          refine va_zald (f := (S.2 21)) hx hb hK hP 21 1 rfl rfl h_6 dX0_answer_71 ?_
          refine lv_if_eq (tgt := 79) hx hb dX0_answer_72 (by decide) (fun c_7 => ?_) (fun c_7 => ?_)
          · have hok := okT hok c_7
            have hZ := rsT hZ c_7
            refine lv_iconst (v := 0) hx hb dX0_answer_79 (by decide) ?_
            exact W.iret (v := 0) hx hb hr (fun t ht hW => ⟨⟨0, S, rfl, hZ, by rw [ht]; exact hP, va_K.moved hW.alike hK, hD⟩, hS.F ht⟩) hS.2.2 dX0_answer_80 hlocks
          · have hok := okF hok c_7
            have hZ := rsF hZ c_7
            refine lv_iconst (v := 1) hx hb dX0_answer_75 (by decide) ?_
            refine lv_goto (tgt := 80) hx hb dX0_answer_76 (by decide) ?_
            exact W.iret (v := 1) hx hb hr (fun t ht hW => ⟨⟨1, S, rfl, hZ, by rw [ht]; exact hP, va_K.moved hW.alike hK, hD⟩, hS.F ht⟩) hS.2.2 dX0_answer_80 hlocks
        · have hok := okF hok c_9_k3
          have hZ := rsF hZ c_9_k3
          refine lv_tableOut (tgt := 81) hx hb dX0_answer_1 (by have q0 := lv_neT (a := 0) c_9_k0 (by decide); have q1 := lv_neT (a := 1) c_9_k1 (by decide); have q2 := lv_neT (a := 2) c_9_k2 (by decide); have q3 := lv_neT (a := 3) c_9_k3 (by decide); omega) (by decide) ?_
          refine lv_aload_n hx hb dX0_answer_81 rfl (lv_at hl 0 rfl) ?_
          refine va_get (D := (dC, dI)) (ci := 0) (v := .ref (a 23)) (C := RX0) (T := TX0) (N := 8) hx hb hts iX0_answer_X0 hown hK hP 17 rfl rfl 5 (by decide) (hts (.fieldLink RX0 28 "RiskHouse$Cases" "failedRules" "[I") (by decide +kernel)) (fun _ h9 => h9) rfl dX0_answer_82 ?_
          refine lv_iload_n hx hb dX0_answer_85 rfl (lv_at hl 1 rfl) ?_
          obtain ⟨h_8, hok⟩ := hok
          refine va_iald (f := (S.2 23)) hx hb hK hP 23 0 rfl rfl h_8 dX0_answer_86 ?_
          exact W.iret (v := ((S.2 23) x1.toNatClampNeg)) hx hb hr (fun t ht hW => ⟨⟨((S.2 23) x1.toNatClampNeg), S, rfl, hZ, by rw [ht]; exact hP, va_K.moved hW.alike hK, hD⟩, hS.F ht⟩) hS.2.2 dX0_answer_87 hlocks
set_option maxHeartbeats 4000000 in
set_option maxRecDepth 100000 in
theorem c_X0_answer (l : Launch) (dC : Nat → ClassId) (dI : Nat → Nat → Nat) (cI cZ : ClassId) (a : Nat → Nat) (sz : Nat) (S : St) (x1 : Int32) (x2 : Int32) (hok : ok_X0_answer S x1 x2) : Met l yX0_answer wsX0_answer rm_X0_answer (va_Pc [.ref (a 17), .int x1, .int x2] (cWP dC dI cI cZ a sz S)) (va_Qi (fun (r : Int32) (u : St) => (r, u) = rs_X0_answer S x1 x2) (cWB dC dI cI cZ a (va_A (cW cI cZ a S) sz)) (va_A (cW cI cZ a S) sz)) 0 0 (va_A (cW cI cZ a S) sz) := by
  refine Met.ofW (cc := cX0_answer) (maxL := 3) (ret := (some .int)) (by decide) rfl ?_
  intro p e s m args below meth c s₁ B hml hv
  obtain ⟨rfl, hsz, hP, hK, hD0⟩ := hv
  subst hsz
  have hD := hD0.self (sz := s.heap.size)
  have hl := lv_entry ([.ref (a 17), .int x1, .int x2]) (n := 3) (Nat.le_of_ble_eq_true rfl)
  rw [lg_entry_eq]
  generalize (lg_sl ([.ref (a 17), .int x1, .int x2]) ++ List.replicate (3 - (lg_sl ([.ref (a 17), .int x1, .int x2])).length) Slot.unset).toArray = ls at hl ⊢
  have hl : lv_has ls 3 [(0, .ref (a 17)), (1, .int x1), (2, .int x2)] := hl
  exact w_X0_answer ⟨B.exec, B.bytes, B.returns, hml, findClass_of_methodNamed B.named, atoms_spec (ws := wsX0_answer) B.pre, B.notSynchronized⟩ hK (fun q h => Or.inr h) _ S x1 x2 hok rfl _ _ hP hD va_S.rf ls hl
abbrev rm_X2_hasStarted : Room := { frames := 0, cells := 0, slots := 0, locals := 0 }
theorem iX2_hasStarted_X2 : ∀ w ∈ wsX20, w ∈ wsX2_hasStarted := by decide +kernel
def rs_X2_hasStarted (S : St) (x1 : Int32) : Int32 × St := (if ((S.2 13) x1.toNatClampNeg) = 0 then (0, S) else (1, S))
def ok_X2_hasStarted (S : St) (x1 : Int32) : Prop := ((vp_in x1 4) ∧ (if ((S.2 13) x1.toNatClampNeg) = 0 then True else True))
set_option maxHeartbeats 4000000 in
set_option maxRecDepth 100000 in
theorem w_X2_hasStarted {p : Program} {l : Launch} {e : Env} {s : State} {m : MethodId} {args : Array Value} {below : List Frame} {meth : Method} {c : Code} {dC : Nat → ClassId} {dI : Nat → Nat → Nat} {cI cZ : ClassId} {a : Nat → Nat} {A : Nat → Prop} (C0 : Cx p s m args meth c RX2 cX2_hasStarted (some .boolean) 2 wsX2_hasStarted) (hK : va_K (dC, dI) vwCl (tI cI cZ) s) (hA : ∀ q, s.heap.size ≤ q → A q) (Z : Int32 × St) (S : St) (x1 : Int32) (hok : ok_X2_hasStarted S x1) (hZ : rs_X2_hasStarted S x1 = Z) (H : Heap) (locs : List Loc) (hP : va_P (dC, dI) vwCl (cW cI cZ a S) H) (hD : va_D A (cW cI cZ a S)) (hS : va_S A s.heap H locs) (ls : Array Slot) (hl : lv_has ls 2 [(0, .ref (a 11)), (1, .int x1)]) : W p l e rm_X2_hasStarted s m args below meth c H locs 0 0 (MQ below (va_Qi (fun (r : Int32) (u : St) => (r, u) = Z) (cWB dC dI cI cZ a A) A) args s 0 0 A) (F0 m 0 ls []) := by
  obtain ⟨hx, hb, hr, hml, hown, hts, hlocks⟩ := id C0
  rw [ok_X2_hasStarted] at hok
  rw [rs_X2_hasStarted] at hZ
  refine lv_aload_n hx hb dX2_hasStarted_0 rfl (lv_at hl 0 rfl) ?_
  refine va_get (D := (dC, dI)) (ci := 1) (v := .ref (a 13)) (C := RX2) (T := TX2) (N := 3) hx hb hts iX2_hasStarted_X2 hown hK hP 11 rfl rfl 1 (by decide) (hts (.fieldLink RX2 13 "RiskHouse$Editions" "state" "[I") (by decide +kernel)) (fun _ h9 => h9) rfl dX2_hasStarted_1 ?_
  refine lv_iload_n hx hb dX2_hasStarted_4 rfl (lv_at hl 1 rfl) ?_
  obtain ⟨h_1, hok⟩ := hok
  refine va_iald (f := (S.2 13)) hx hb hK hP 13 0 rfl rfl h_1 dX2_hasStarted_5 ?_
  refine lv_if_eq (tgt := 13) hx hb dX2_hasStarted_6 (by decide) (fun c_2 => ?_) (fun c_2 => ?_)
  · have hok := okT hok c_2
    have hZ := rsT hZ c_2
    refine lv_iconst (v := 0) hx hb dX2_hasStarted_13 (by decide) ?_
    exact W.zret (v := 0) hx hb hr rfl (fun t ht hW => ⟨⟨0, S, rfl, hZ, by rw [ht]; exact hP, va_K.moved hW.alike hK, hD⟩, hS.F ht⟩) hS.2.2 dX2_hasStarted_14 hlocks
  · have hok := okF hok c_2
    have hZ := rsF hZ c_2
    refine lv_iconst (v := 1) hx hb dX2_hasStarted_9 (by decide) ?_
    refine lv_goto (tgt := 14) hx hb dX2_hasStarted_10 (by decide) ?_
    exact W.zret (v := 1) hx hb hr rfl (fun t ht hW => ⟨⟨1, S, rfl, hZ, by rw [ht]; exact hP, va_K.moved hW.alike hK, hD⟩, hS.F ht⟩) hS.2.2 dX2_hasStarted_14 hlocks
set_option maxHeartbeats 4000000 in
set_option maxRecDepth 100000 in
theorem c_X2_hasStarted (l : Launch) (dC : Nat → ClassId) (dI : Nat → Nat → Nat) (cI cZ : ClassId) (a : Nat → Nat) (sz : Nat) (S : St) (x1 : Int32) (hok : ok_X2_hasStarted S x1) : Met l yX2_hasStarted wsX2_hasStarted rm_X2_hasStarted (va_Pc [.ref (a 11), .int x1] (cWP dC dI cI cZ a sz S)) (va_Qi (fun (r : Int32) (u : St) => (r, u) = rs_X2_hasStarted S x1) (cWB dC dI cI cZ a (va_A (cW cI cZ a S) sz)) (va_A (cW cI cZ a S) sz)) 0 0 (va_A (cW cI cZ a S) sz) := by
  refine Met.ofW (cc := cX2_hasStarted) (maxL := 2) (ret := (some .boolean)) (by decide) rfl ?_
  intro p e s m args below meth c s₁ B hml hv
  obtain ⟨rfl, hsz, hP, hK, hD0⟩ := hv
  subst hsz
  have hD := hD0.self (sz := s.heap.size)
  have hl := lv_entry ([.ref (a 11), .int x1]) (n := 2) (Nat.le_of_ble_eq_true rfl)
  rw [lg_entry_eq]
  generalize (lg_sl ([.ref (a 11), .int x1]) ++ List.replicate (2 - (lg_sl ([.ref (a 11), .int x1])).length) Slot.unset).toArray = ls at hl ⊢
  have hl : lv_has ls 2 [(0, .ref (a 11)), (1, .int x1)] := hl
  exact w_X2_hasStarted ⟨B.exec, B.bytes, B.returns, hml, findClass_of_methodNamed B.named, atoms_spec (ws := wsX2_hasStarted) B.pre, B.notSynchronized⟩ hK (fun q h => Or.inr h) _ S x1 hok rfl _ _ hP hD va_S.rf ls hl
abbrev rm_X2_isBarred : Room := { frames := 0, cells := 0, slots := 0, locals := 0 }
theorem iX2_isBarred_X2 : ∀ w ∈ wsX20, w ∈ wsX2_isBarred := by decide +kernel
def rs_X2_isBarred (S : St) (x1 : Int32) : Int32 × St := (if ((S.2 13) x1.toNatClampNeg) = 2 then (1, S) else (0, S))
def ok_X2_isBarred (S : St) (x1 : Int32) : Prop := ((vp_in x1 4) ∧ (if ((S.2 13) x1.toNatClampNeg) = 2 then True else True))
set_option maxHeartbeats 4000000 in
set_option maxRecDepth 100000 in
theorem w_X2_isBarred {p : Program} {l : Launch} {e : Env} {s : State} {m : MethodId} {args : Array Value} {below : List Frame} {meth : Method} {c : Code} {dC : Nat → ClassId} {dI : Nat → Nat → Nat} {cI cZ : ClassId} {a : Nat → Nat} {A : Nat → Prop} (C0 : Cx p s m args meth c RX2 cX2_isBarred (some .boolean) 2 wsX2_isBarred) (hK : va_K (dC, dI) vwCl (tI cI cZ) s) (hA : ∀ q, s.heap.size ≤ q → A q) (Z : Int32 × St) (S : St) (x1 : Int32) (hok : ok_X2_isBarred S x1) (hZ : rs_X2_isBarred S x1 = Z) (H : Heap) (locs : List Loc) (hP : va_P (dC, dI) vwCl (cW cI cZ a S) H) (hD : va_D A (cW cI cZ a S)) (hS : va_S A s.heap H locs) (ls : Array Slot) (hl : lv_has ls 2 [(0, .ref (a 11)), (1, .int x1)]) : W p l e rm_X2_isBarred s m args below meth c H locs 0 0 (MQ below (va_Qi (fun (r : Int32) (u : St) => (r, u) = Z) (cWB dC dI cI cZ a A) A) args s 0 0 A) (F0 m 0 ls []) := by
  obtain ⟨hx, hb, hr, hml, hown, hts, hlocks⟩ := id C0
  rw [ok_X2_isBarred] at hok
  rw [rs_X2_isBarred] at hZ
  refine lv_aload_n hx hb dX2_isBarred_0 rfl (lv_at hl 0 rfl) ?_
  refine va_get (D := (dC, dI)) (ci := 1) (v := .ref (a 13)) (C := RX2) (T := TX2) (N := 3) hx hb hts iX2_isBarred_X2 hown hK hP 11 rfl rfl 1 (by decide) (hts (.fieldLink RX2 13 "RiskHouse$Editions" "state" "[I") (by decide +kernel)) (fun _ h9 => h9) rfl dX2_isBarred_1 ?_
  refine lv_iload_n hx hb dX2_isBarred_4 rfl (lv_at hl 1 rfl) ?_
  obtain ⟨h_1, hok⟩ := hok
  refine va_iald (f := (S.2 13)) hx hb hK hP 13 0 rfl rfl h_1 dX2_isBarred_5 ?_
  refine lv_iconst (v := 2) hx hb dX2_isBarred_6 (by decide) ?_
  refine lv_icmp_ne (tgt := 14) hx hb dX2_isBarred_7 (by decide) (fun c_2 => ?_) (fun c_2 => ?_)
  · have hok := okF hok c_2
    have hZ := rsF hZ c_2
    refine lv_iconst (v := 0) hx hb dX2_isBarred_14 (by decide) ?_
    exact W.zret (v := 0) hx hb hr rfl (fun t ht hW => ⟨⟨0, S, rfl, hZ, by rw [ht]; exact hP, va_K.moved hW.alike hK, hD⟩, hS.F ht⟩) hS.2.2 dX2_isBarred_15 hlocks
  · have hok := okT hok c_2
    have hZ := rsT hZ c_2
    refine lv_iconst (v := 1) hx hb dX2_isBarred_10 (by decide) ?_
    refine lv_goto (tgt := 15) hx hb dX2_isBarred_11 (by decide) ?_
    exact W.zret (v := 1) hx hb hr rfl (fun t ht hW => ⟨⟨1, S, rfl, hZ, by rw [ht]; exact hP, va_K.moved hW.alike hK, hD⟩, hS.F ht⟩) hS.2.2 dX2_isBarred_15 hlocks
set_option maxHeartbeats 4000000 in
set_option maxRecDepth 100000 in
theorem c_X2_isBarred (l : Launch) (dC : Nat → ClassId) (dI : Nat → Nat → Nat) (cI cZ : ClassId) (a : Nat → Nat) (sz : Nat) (S : St) (x1 : Int32) (hok : ok_X2_isBarred S x1) : Met l yX2_isBarred wsX2_isBarred rm_X2_isBarred (va_Pc [.ref (a 11), .int x1] (cWP dC dI cI cZ a sz S)) (va_Qi (fun (r : Int32) (u : St) => (r, u) = rs_X2_isBarred S x1) (cWB dC dI cI cZ a (va_A (cW cI cZ a S) sz)) (va_A (cW cI cZ a S) sz)) 0 0 (va_A (cW cI cZ a S) sz) := by
  refine Met.ofW (cc := cX2_isBarred) (maxL := 2) (ret := (some .boolean)) (by decide) rfl ?_
  intro p e s m args below meth c s₁ B hml hv
  obtain ⟨rfl, hsz, hP, hK, hD0⟩ := hv
  subst hsz
  have hD := hD0.self (sz := s.heap.size)
  have hl := lv_entry ([.ref (a 11), .int x1]) (n := 2) (Nat.le_of_ble_eq_true rfl)
  rw [lg_entry_eq]
  generalize (lg_sl ([.ref (a 11), .int x1]) ++ List.replicate (2 - (lg_sl ([.ref (a 11), .int x1])).length) Slot.unset).toArray = ls at hl ⊢
  have hl : lv_has ls 2 [(0, .ref (a 11)), (1, .int x1)] := hl
  exact w_X2_isBarred ⟨B.exec, B.bytes, B.returns, hml, findClass_of_methodNamed B.named, atoms_spec (ws := wsX2_isBarred) B.pre, B.notSynchronized⟩ hK (fun q h => Or.inr h) _ S x1 hok rfl _ _ hP hD va_S.rf ls hl
abbrev rm_X2_isDue : Room := { frames := 1, cells := 0, slots := 0, locals := 21 }
theorem iX2_isDue_X2 : ∀ w ∈ wsX20, w ∈ wsX2_isDue := by decide +kernel
def rs_X2_isDue_21 (S : St)  : Int32 × St := (0, S)
def ok_X2_isDue_21 (S : St)  : Prop := True
set_option maxHeartbeats 4000000 in
set_option maxRecDepth 100000 in
theorem w_X2_isDue_21 {p : Program} {l : Launch} {e : Env} {s : State} {m : MethodId} {args : Array Value} {below : List Frame} {meth : Method} {c : Code} {dC : Nat → ClassId} {dI : Nat → Nat → Nat} {cI cZ : ClassId} {a : Nat → Nat} {A : Nat → Prop} (C0 : Cx p s m args meth c RX2 cX2_isDue (some .boolean) 2 wsX2_isDue) (hK : va_K (dC, dI) vwCl (tI cI cZ) s) (hA : ∀ q, s.heap.size ≤ q → A q) (Z : Int32 × St) (S : St)  (hok : ok_X2_isDue_21 S) (hZ : rs_X2_isDue_21 S = Z) (H : Heap) (locs : List Loc) (hP : va_P (dC, dI) vwCl (cW cI cZ a S) H) (hD : va_D A (cW cI cZ a S)) (hS : va_S A s.heap H locs) (ls : Array Slot) (hl : lv_has ls 2 []) : W p l e rm_X2_isDue s m args below meth c H locs 0 0 (MQ below (va_Qi (fun (r : Int32) (u : St) => (r, u) = Z) (cWB dC dI cI cZ a A) A) args s 0 0 A) (F0 m 21 ls []) := by
  obtain ⟨hx, hb, hr, hml, hown, hts, hlocks⟩ := id C0
  rw [ok_X2_isDue_21] at hok
  rw [rs_X2_isDue_21] at hZ
  refine lv_iconst (v := 0) hx hb dX2_isDue_21 (by decide) ?_
  exact W.zret (v := 0) hx hb hr rfl (fun t ht hW => ⟨⟨0, S, rfl, hZ, by rw [ht]; exact hP, va_K.moved hW.alike hK, hD⟩, hS.F ht⟩) hS.2.2 dX2_isDue_22 hlocks
def rs_X2_isDue_5 (S : St) (x1 : Int32) (z0 : Int32) : Int32 × St := (if z0 = 0 then (if ((S.2 14) x1.toNatClampNeg) ≤ 0 then (rs_X2_isDue_21 S) else (1, S)) else (rs_X2_isDue_21 S))
def ok_X2_isDue_5 (S : St) (x1 : Int32) (z0 : Int32) : Prop := (if z0 = 0 then ((vp_in x1 4) ∧ (if ((S.2 14) x1.toNatClampNeg) ≤ 0 then ok_X2_isDue_21 S else True)) else ok_X2_isDue_21 S)
set_option maxHeartbeats 4000000 in
set_option maxRecDepth 100000 in
theorem w_X2_isDue_5 {p : Program} {l : Launch} {e : Env} {s : State} {m : MethodId} {args : Array Value} {below : List Frame} {meth : Method} {c : Code} {dC : Nat → ClassId} {dI : Nat → Nat → Nat} {cI cZ : ClassId} {a : Nat → Nat} {A : Nat → Prop} (C0 : Cx p s m args meth c RX2 cX2_isDue (some .boolean) 2 wsX2_isDue) (hK : va_K (dC, dI) vwCl (tI cI cZ) s) (hA : ∀ q, s.heap.size ≤ q → A q) (Z : Int32 × St) (S : St) (x1 : Int32) (z0 : Int32) (hok : ok_X2_isDue_5 S x1 z0) (hZ : rs_X2_isDue_5 S x1 z0 = Z) (H : Heap) (locs : List Loc) (hP : va_P (dC, dI) vwCl (cW cI cZ a S) H) (hD : va_D A (cW cI cZ a S)) (hS : va_S A s.heap H locs) (ls : Array Slot) (hl : lv_has ls 2 [(0, .ref (a 11)), (1, .int x1)]) : W p l e rm_X2_isDue s m args below meth c H locs 0 0 (MQ below (va_Qi (fun (r : Int32) (u : St) => (r, u) = Z) (cWB dC dI cI cZ a A) A) args s 0 0 A) (F0 m 5 ls [.int z0]) := by
  obtain ⟨hx, hb, hr, hml, hown, hts, hlocks⟩ := id C0
  rw [ok_X2_isDue_5] at hok
  rw [rs_X2_isDue_5] at hZ
  refine lv_if_ne (tgt := 21) hx hb dX2_isDue_5 (by decide) (fun c_1 => ?_) (fun c_1 => ?_)
  · have hok := okF hok c_1
    have hZ := rsF hZ c_1
    exact w_X2_isDue_21 C0 hK hA Z S hok hZ _ _ hP hD hS _ (lv_sub hl [] rfl)
  · have hok := okT hok c_1
    have hZ := rsT hZ c_1
    refine lv_aload_n hx hb dX2_isDue_8 rfl (lv_at hl 0 rfl) ?_
    refine va_get (D := (dC, dI)) (ci := 1) (v := .ref (a 14)) (C := RX2) (T := TX2) (N := 3) hx hb hts iX2_isDue_X2 hown hK hP 11 rfl rfl 2 (by decide) (hts (.fieldLink RX2 16 "RiskHouse$Editions" "rules" "[I") (by decide +kernel)) (fun _ h9 => h9) rfl dX2_isDue_9 ?_
    refine lv_iload_n hx hb dX2_isDue_12 rfl (lv_at hl 1 rfl) ?_
    obtain ⟨h_2, hok⟩ := hok
    refine va_iald (f := (S.2 14)) hx hb hK hP 14 0 rfl rfl h_2 dX2_isDue_13 ?_
    refine lv_if_le (tgt := 21) hx hb dX2_isDue_14 (by decide) (fun c_3 => ?_) (fun c_3 => ?_)
    · have hok := okT hok c_3
      have hZ := rsT hZ c_3
      exact w_X2_isDue_21 C0 hK hA Z S hok hZ _ _ hP hD hS _ (lv_sub hl [] rfl)
    · have hok := okF hok c_3
      have hZ := rsF hZ c_3
      refine lv_iconst (v := 1) hx hb dX2_isDue_17 (by decide) ?_
      refine lv_goto (tgt := 22) hx hb dX2_isDue_18 (by decide) ?_
      exact W.zret (v := 1) hx hb hr rfl (fun t ht hW => ⟨⟨1, S, rfl, hZ, by rw [ht]; exact hP, va_K.moved hW.alike hK, hD⟩, hS.F ht⟩) hS.2.2 dX2_isDue_22 hlocks
def rs_X2_isDue (S : St) (x1 : Int32) : Int32 × St := (rs_X2_isDue_5 (rs_X2_hasStarted S x1).2 x1 ((rs_X2_hasStarted S x1).1))
def ok_X2_isDue (S : St) (x1 : Int32) : Prop := ((ok_X2_hasStarted S x1) ∧ ok_X2_isDue_5 (rs_X2_hasStarted S x1).2 x1 ((rs_X2_hasStarted S x1).1))
set_option maxHeartbeats 4000000 in
set_option maxRecDepth 100000 in
theorem w_X2_isDue {p : Program} {l : Launch} {e : Env} {s : State} {m : MethodId} {args : Array Value} {below : List Frame} {meth : Method} {c : Code} {dC : Nat → ClassId} {dI : Nat → Nat → Nat} {cI cZ : ClassId} {a : Nat → Nat} {A : Nat → Prop} (C0 : Cx p s m args meth c RX2 cX2_isDue (some .boolean) 2 wsX2_isDue) (hK : va_K (dC, dI) vwCl (tI cI cZ) s) (hA : ∀ q, s.heap.size ≤ q → A q) (Z : Int32 × St) (S : St) (x1 : Int32) (hok : ok_X2_isDue S x1) (hZ : rs_X2_isDue S x1 = Z) (H : Heap) (locs : List Loc) (hP : va_P (dC, dI) vwCl (cW cI cZ a S) H) (hD : va_D A (cW cI cZ a S)) (hS : va_S A s.heap H locs) (ls : Array Slot) (hl : lv_has ls 2 [(0, .ref (a 11)), (1, .int x1)]) : W p l e rm_X2_isDue s m args below meth c H locs 0 0 (MQ below (va_Qi (fun (r : Int32) (u : St) => (r, u) = Z) (cWB dC dI cI cZ a A) A) args s 0 0 A) (F0 m 0 ls []) := by
  obtain ⟨hx, hb, hr, hml, hown, hts, hlocks⟩ := id C0
  rw [ok_X2_isDue] at hok
  rw [rs_X2_isDue] at hZ
  refine lv_aload_n hx hb dX2_isDue_0 rfl (lv_at hl 0 rfl) ?_
  refine lv_iload_n hx hb dX2_isDue_1 rfl (lv_at hl 1 rfl) ?_
  obtain ⟨k_1, hok⟩ := hok
  have hFc := wFw (w := cW cI cZ a S) hD hS hA
  refine va_calli (va_runV (As := [.int x1]) (rest := []) ⟨hx, hb, hml, hown, hts⟩ (c_X2_hasStarted l dC dI cI cZ a H.size S x1 k_1) (cwV 1 hts gX2_isDue_X2_hasStarted rfl rfl rfl (by decide +kernel) ⟨Nat.le_of_ble_eq_true rfl, Nat.le_of_ble_eq_true rfl⟩) ⟨wBl, va_recv hK hP (ci := 1) (q0 := 11) rfl rfl, fun U hU hW => ⟨rfl, by rw [hU], by rw [hU]; exact hP, va_K.moved hW.alike hK, hD.weaken (fun _ _ _ _ => trivial)⟩⟩ rfl rfl hl.1 rfl (lv_room (Nat.le_of_ble_eq_true rfl)) dX2_isDue_2 ⟨Nat.zero_le _, Nat.zero_le _⟩) hS (fun q _ h => hFc q h) hFc (fun r u t H1 locs ht hvm hw hB hz1 hk1 hS => ?_)
  obtain ⟨hP, hD⟩ := wJn ht hFc hB.1 hB.2.2
  have e1 : r = (rs_X2_hasStarted S x1).1 := congrArg Prod.fst hw
  have e2 : u = (rs_X2_hasStarted S x1).2 := congrArg Prod.snd hw
  rw [e1]
  rw [e2] at hP hD
  generalize H1 = H at hP hS ⊢
  exact w_X2_isDue_5 C0 hK hA Z (rs_X2_hasStarted S x1).2 x1 ((rs_X2_hasStarted S x1).1) hok hZ _ _ hP hD hS _ (lv_sub hl [0, 1] rfl)
set_option maxHeartbeats 4000000 in
set_option maxRecDepth 100000 in
theorem c_X2_isDue (l : Launch) (dC : Nat → ClassId) (dI : Nat → Nat → Nat) (cI cZ : ClassId) (a : Nat → Nat) (sz : Nat) (S : St) (x1 : Int32) (hok : ok_X2_isDue S x1) : Met l yX2_isDue wsX2_isDue rm_X2_isDue (va_Pc [.ref (a 11), .int x1] (cWP dC dI cI cZ a sz S)) (va_Qi (fun (r : Int32) (u : St) => (r, u) = rs_X2_isDue S x1) (cWB dC dI cI cZ a (va_A (cW cI cZ a S) sz)) (va_A (cW cI cZ a S) sz)) 0 0 (va_A (cW cI cZ a S) sz) := by
  refine Met.ofW (cc := cX2_isDue) (maxL := 2) (ret := (some .boolean)) (by decide) rfl ?_
  intro p e s m args below meth c s₁ B hml hv
  obtain ⟨rfl, hsz, hP, hK, hD0⟩ := hv
  subst hsz
  have hD := hD0.self (sz := s.heap.size)
  have hl := lv_entry ([.ref (a 11), .int x1]) (n := 2) (Nat.le_of_ble_eq_true rfl)
  rw [lg_entry_eq]
  generalize (lg_sl ([.ref (a 11), .int x1]) ++ List.replicate (2 - (lg_sl ([.ref (a 11), .int x1])).length) Slot.unset).toArray = ls at hl ⊢
  have hl : lv_has ls 2 [(0, .ref (a 11)), (1, .int x1)] := hl
  exact w_X2_isDue ⟨B.exec, B.bytes, B.returns, hml, findClass_of_methodNamed B.named, atoms_spec (ws := wsX2_isDue) B.pre, B.notSynchronized⟩ hK (fun q h => Or.inr h) _ S x1 hok rfl _ _ hP hD va_S.rf ls hl
abbrev rm_X2_answer : Room := { frames := 0, cells := 0, slots := 0, locals := 0 }
theorem iX2_answer_X2 : ∀ w ∈ wsX20, w ∈ wsX2_answer := by decide +kernel
def rs_X2_answer (S : St) (x1 : Int32) (x2 : Int32) : Int32 × St := (if x2 = 0 then (((S.2 12) x1.toNatClampNeg), S) else (if x2 = 1 then (((S.2 13) x1.toNatClampNeg), S) else (((S.2 14) x1.toNatClampNeg), S)))
def ok_X2_answer (S : St) (x1 : Int32) (x2 : Int32) : Prop := (if x2 = 0 then ((vp_in x1 4) ∧ True) else (if x2 = 1 then ((vp_in x1 4) ∧ True) else ((vp_in x1 4) ∧ True)))
set_option maxHeartbeats 4000000 in
set_option maxRecDepth 100000 in
theorem w_X2_answer {p : Program} {l : Launch} {e : Env} {s : State} {m : MethodId} {args : Array Value} {below : List Frame} {meth : Method} {c : Code} {dC : Nat → ClassId} {dI : Nat → Nat → Nat} {cI cZ : ClassId} {a : Nat → Nat} {A : Nat → Prop} (C0 : Cx p s m args meth c RX2 cX2_answer (some .int) 3 wsX2_answer) (hK : va_K (dC, dI) vwCl (tI cI cZ) s) (hA : ∀ q, s.heap.size ≤ q → A q) (Z : Int32 × St) (S : St) (x1 : Int32) (x2 : Int32) (hok : ok_X2_answer S x1 x2) (hZ : rs_X2_answer S x1 x2 = Z) (H : Heap) (locs : List Loc) (hP : va_P (dC, dI) vwCl (cW cI cZ a S) H) (hD : va_D A (cW cI cZ a S)) (hS : va_S A s.heap H locs) (ls : Array Slot) (hl : lv_has ls 3 [(0, .ref (a 11)), (1, .int x1), (2, .int x2)]) : W p l e rm_X2_answer s m args below meth c H locs 0 0 (MQ below (va_Qi (fun (r : Int32) (u : St) => (r, u) = Z) (cWB dC dI cI cZ a A) A) args s 0 0 A) (F0 m 0 ls []) := by
  obtain ⟨hx, hb, hr, hml, hown, hts, hlocks⟩ := id C0
  rw [ok_X2_answer] at hok
  rw [rs_X2_answer] at hZ
  refine lv_iload_n hx hb dX2_answer_0 rfl (lv_at hl 2 rfl) ?_
  by_cases c_4_k0 : x2 = 0
  · have hok := okT hok c_4_k0
    have hZ := rsT hZ c_4_k0
    refine lv_lookup (off := 27) (tgt := 28) hx hb dX2_answer_1 (by decide) (by rw [c_4_k0]; rfl) (by decide) ?_
    refine lv_aload_n hx hb dX2_answer_28 rfl (lv_at hl 0 rfl) ?_
    refine va_get (D := (dC, dI)) (ci := 1) (v := .ref (a 12)) (C := RX2) (T := TX2) (N := 3) hx hb hts iX2_answer_X2 hown hK hP 11 rfl rfl 0 (by decide) (hts (.fieldLink RX2 9 "RiskHouse$Editions" "cell" "[I") (by decide +kernel)) (fun _ h9 => h9) rfl dX2_answer_29 ?_
    refine lv_iload_n hx hb dX2_answer_32 rfl (lv_at hl 1 rfl) ?_
    obtain ⟨h_1, hok⟩ := hok
    refine va_iald (f := (S.2 12)) hx hb hK hP 12 0 rfl rfl h_1 dX2_answer_33 ?_
    exact W.iret (v := ((S.2 12) x1.toNatClampNeg)) hx hb hr (fun t ht hW => ⟨⟨((S.2 12) x1.toNatClampNeg), S, rfl, hZ, by rw [ht]; exact hP, va_K.moved hW.alike hK, hD⟩, hS.F ht⟩) hS.2.2 dX2_answer_34 hlocks
  · have hok := okF hok c_4_k0
    have hZ := rsF hZ c_4_k0
    by_cases c_4_k1 : x2 = 1
    · have hok := okT hok c_4_k1
      have hZ := rsT hZ c_4_k1
      refine lv_lookup (off := 34) (tgt := 35) hx hb dX2_answer_1 (by decide) (by rw [c_4_k1]; rfl) (by decide) ?_
      refine lv_aload_n hx hb dX2_answer_35 rfl (lv_at hl 0 rfl) ?_
      refine va_get (D := (dC, dI)) (ci := 1) (v := .ref (a 13)) (C := RX2) (T := TX2) (N := 3) hx hb hts iX2_answer_X2 hown hK hP 11 rfl rfl 1 (by decide) (hts (.fieldLink RX2 13 "RiskHouse$Editions" "state" "[I") (by decide +kernel)) (fun _ h9 => h9) rfl dX2_answer_36 ?_
      refine lv_iload_n hx hb dX2_answer_39 rfl (lv_at hl 1 rfl) ?_
      obtain ⟨h_2, hok⟩ := hok
      refine va_iald (f := (S.2 13)) hx hb hK hP 13 0 rfl rfl h_2 dX2_answer_40 ?_
      exact W.iret (v := ((S.2 13) x1.toNatClampNeg)) hx hb hr (fun t ht hW => ⟨⟨((S.2 13) x1.toNatClampNeg), S, rfl, hZ, by rw [ht]; exact hP, va_K.moved hW.alike hK, hD⟩, hS.F ht⟩) hS.2.2 dX2_answer_41 hlocks
    · have hok := okF hok c_4_k1
      have hZ := rsF hZ c_4_k1
      refine lv_lookup (off := 41) (tgt := 42) hx hb dX2_answer_1 (by decide) (by show Op.lookupswitch.offset [(0, 27), (1, 34)] 41 _ = 41; rw [lv_osw c_4_k0 (by decide), lv_osw c_4_k1 (by decide)]; rfl) (by decide) ?_
      refine lv_aload_n hx hb dX2_answer_42 rfl (lv_at hl 0 rfl) ?_
      refine va_get (D := (dC, dI)) (ci := 1) (v := .ref (a 14)) (C := RX2) (T := TX2) (N := 3) hx hb hts iX2_answer_X2 hown hK hP 11 rfl rfl 2 (by decide) (hts (.fieldLink RX2 16 "RiskHouse$Editions" "rules" "[I") (by decide +kernel)) (fun _ h9 => h9) rfl dX2_answer_43 ?_
      refine lv_iload_n hx hb dX2_answer_46 rfl (lv_at hl 1 rfl) ?_
      obtain ⟨h_3, hok⟩ := hok
      refine va_iald (f := (S.2 14)) hx hb hK hP 14 0 rfl rfl h_3 dX2_answer_47 ?_
      exact W.iret (v := ((S.2 14) x1.toNatClampNeg)) hx hb hr (fun t ht hW => ⟨⟨((S.2 14) x1.toNatClampNeg), S, rfl, hZ, by rw [ht]; exact hP, va_K.moved hW.alike hK, hD⟩, hS.F ht⟩) hS.2.2 dX2_answer_48 hlocks
set_option maxHeartbeats 4000000 in
set_option maxRecDepth 100000 in
theorem c_X2_answer (l : Launch) (dC : Nat → ClassId) (dI : Nat → Nat → Nat) (cI cZ : ClassId) (a : Nat → Nat) (sz : Nat) (S : St) (x1 : Int32) (x2 : Int32) (hok : ok_X2_answer S x1 x2) : Met l yX2_answer wsX2_answer rm_X2_answer (va_Pc [.ref (a 11), .int x1, .int x2] (cWP dC dI cI cZ a sz S)) (va_Qi (fun (r : Int32) (u : St) => (r, u) = rs_X2_answer S x1 x2) (cWB dC dI cI cZ a (va_A (cW cI cZ a S) sz)) (va_A (cW cI cZ a S) sz)) 0 0 (va_A (cW cI cZ a S) sz) := by
  refine Met.ofW (cc := cX2_answer) (maxL := 3) (ret := (some .int)) (by decide) rfl ?_
  intro p e s m args below meth c s₁ B hml hv
  obtain ⟨rfl, hsz, hP, hK, hD0⟩ := hv
  subst hsz
  have hD := hD0.self (sz := s.heap.size)
  have hl := lv_entry ([.ref (a 11), .int x1, .int x2]) (n := 3) (Nat.le_of_ble_eq_true rfl)
  rw [lg_entry_eq]
  generalize (lg_sl ([.ref (a 11), .int x1, .int x2]) ++ List.replicate (3 - (lg_sl ([.ref (a 11), .int x1, .int x2])).length) Slot.unset).toArray = ls at hl ⊢
  have hl : lv_has ls 3 [(0, .ref (a 11)), (1, .int x1), (2, .int x2)] := hl
  exact w_X2_answer ⟨B.exec, B.bytes, B.returns, hml, findClass_of_methodNamed B.named, atoms_spec (ws := wsX2_answer) B.pre, B.notSynchronized⟩ hK (fun q h => Or.inr h) _ S x1 x2 hok rfl _ _ hP hD va_S.rf ls hl
abbrev rm_X3_tell : Room := { frames := 0, cells := 0, slots := 0, locals := 0 }
theorem iX3_tell_X3 : ∀ w ∈ wsX30, w ∈ wsX3_tell := by decide +kernel
def rs_X3_tell_56 (S : St)  : St := (sI S 961 ((S.1 961) + 1))
def ok_X3_tell_56 (S : St)  : Prop := True
set_option maxHeartbeats 4000000 in
set_option maxRecDepth 100000 in
theorem w_X3_tell_56 {p : Program} {l : Launch} {e : Env} {s : State} {m : MethodId} {args : Array Value} {below : List Frame} {meth : Method} {c : Code} {dC : Nat → ClassId} {dI : Nat → Nat → Nat} {cI cZ : ClassId} {a : Nat → Nat} {A : Nat → Prop} (C0 : Cx p s m args meth c RX3 cX3_tell none 6 wsX3_tell) (hK : va_K (dC, dI) vwCl (tI cI cZ) s) (hA : ∀ q, s.heap.size ≤ q → A q) (Z : St) (S : St)  (hok : ok_X3_tell_56 S) (hZ : rs_X3_tell_56 S = Z) (H : Heap) (locs : List Loc) (hP : va_P (dC, dI) vwCl (cW cI cZ a S) H) (hD : va_D A (cW cI cZ a S)) (hS : va_S A s.heap H locs) (ls : Array Slot) (hl : lv_has ls 6 [(0, .ref (a 24))]) : W p l e rm_X3_tell s m args below meth c H locs 0 0 (MQ below (va_Qv (fun u : St => u = Z) (cWB dC dI cI cZ a A) A) args s 0 0 A) (F0 m 56 ls []) := by
  obtain ⟨hx, hb, hr, hml, hown, hts, hlocks⟩ := id C0
  rw [ok_X3_tell_56] at hok
  rw [rs_X3_tell_56] at hZ
  refine lv_aload_n hx hb dX3_tell_56 rfl (lv_at hl 0 rfl) ?_
  refine lv_dup hx hb dX3_tell_57 rfl ?_
  refine va_get (D := (dC, dI)) (ci := 2) (v := .int (S.1 961)) (C := RX3) (T := TX3) (N := 2) hx hb hts iX3_tell_X3 hown hK hP 24 rfl rfl 1 (by decide) (hts (.fieldLink RX3 13 "RiskHouse$Failures" "told" "I") (by decide +kernel)) (fun _ h9 => h9) rfl dX3_tell_58 ?_
  refine lv_iconst (v := 1) hx hb dX3_tell_61 (by decide) ?_
  refine lv_iadd hx hb dX3_tell_62 ?_
  refine va_put (D := (dC, dI)) (ci := 2) (v := .int ((S.1 961) + 1)) (ty := .int) (C := RX3) (T := TX3) (N := 2) hx hb hts iX3_tell_X3 tyX3 tyX3_ok nmX3 hown hK hP hD hS 24 rfl rfl 1 (by decide) (hts (.fieldLink RX3 13 "RiskHouse$Failures" "told" "I") (by decide +kernel)) (fun _ h9 => h9) rfl (by decide +kernel) rfl rfl (Nat.le_of_ble_eq_true rfl) dX3_tell_63 (fun H locs hP hD hS => ?_)
  have hP : va_P (dC, dI) vwCl (cW cI cZ a (sI S 961 ((S.1 961) + 1))) H := hP
  have hD : va_D A (cW cI cZ a (sI S 961 ((S.1 961) + 1))) := hD
  exact W.vret hx hb hr (fun t ht hW => ⟨⟨(sI S 961 ((S.1 961) + 1)), rfl, hZ, by rw [ht]; exact hP, va_K.moved hW.alike hK, hD⟩, hS.F ht⟩) hS.2.2 dX3_tell_66 hlocks
def rs_X3_tell_45 (S : St) (x4 : Int32) (x5 : Int32) : St := (rs_X3_tell_56 (sA S 25 (x5 + 3).toNatClampNeg x4))
def ok_X3_tell_45 (S : St) (x4 : Int32) (x5 : Int32) : Prop := ((vp_in (x5 + 3) 240) ∧ ok_X3_tell_56 (sA S 25 (x5 + 3).toNatClampNeg x4))
set_option maxHeartbeats 4000000 in
set_option maxRecDepth 100000 in
theorem w_X3_tell_45 {p : Program} {l : Launch} {e : Env} {s : State} {m : MethodId} {args : Array Value} {below : List Frame} {meth : Method} {c : Code} {dC : Nat → ClassId} {dI : Nat → Nat → Nat} {cI cZ : ClassId} {a : Nat → Nat} {A : Nat → Prop} (C0 : Cx p s m args meth c RX3 cX3_tell none 6 wsX3_tell) (hK : va_K (dC, dI) vwCl (tI cI cZ) s) (hA : ∀ q, s.heap.size ≤ q → A q) (Z : St) (S : St) (x4 : Int32) (x5 : Int32) (hok : ok_X3_tell_45 S x4 x5) (hZ : rs_X3_tell_45 S x4 x5 = Z) (H : Heap) (locs : List Loc) (hP : va_P (dC, dI) vwCl (cW cI cZ a S) H) (hD : va_D A (cW cI cZ a S)) (hS : va_S A s.heap H locs) (ls : Array Slot) (hl : lv_has ls 6 [(0, .ref (a 24)), (4, .int x4), (5, .int x5)]) : W p l e rm_X3_tell s m args below meth c H locs 0 0 (MQ below (va_Qv (fun u : St => u = Z) (cWB dC dI cI cZ a A) A) args s 0 0 A) (F0 m 45 ls []) := by
  obtain ⟨hx, hb, hr, hml, hown, hts, hlocks⟩ := id C0
  rw [ok_X3_tell_45] at hok
  rw [rs_X3_tell_45] at hZ
  refine lv_aload_n hx hb dX3_tell_45 rfl (lv_at hl 0 rfl) ?_
  refine va_get (D := (dC, dI)) (ci := 2) (v := .ref (a 25)) (C := RX3) (T := TX3) (N := 2) hx hb hts iX3_tell_X3 hown hK hP 24 rfl rfl 0 (by decide) (hts (.fieldLink RX3 9 "RiskHouse$Failures" "rows" "[I") (by decide +kernel)) (fun _ h9 => h9) rfl dX3_tell_46 ?_
  refine lv_iload hx hb dX3_tell_49 (lv_at hl 2 rfl) ?_
  refine lv_iconst (v := 3) hx hb dX3_tell_51 (by decide) ?_
  refine lv_iadd hx hb dX3_tell_52 ?_
  refine lv_iload hx hb dX3_tell_53 (lv_at hl 1 rfl) ?_
  obtain ⟨h_1, hok⟩ := hok
  refine va_iast hx hb hK hP hD hS 25 0 rfl rfl h_1 dX3_tell_55 (fun H locs hP hD hS => ?_)
  have hP : va_P (dC, dI) vwCl (cW cI cZ a (sA S 25 (x5 + 3).toNatClampNeg x4)) H := hP
  have hD : va_D A (cW cI cZ a (sA S 25 (x5 + 3).toNatClampNeg x4)) := hD
  exact w_X3_tell_56 C0 hK hA Z (sA S 25 (x5 + 3).toNatClampNeg x4) hok hZ _ _ hP hD hS _ (lv_sub hl [0] rfl)
def rs_X3_tell_35 (S : St) (x3 : Int32) (x4 : Int32) (x5 : Int32) : St := (rs_X3_tell_45 (sA S 25 (x5 + 2).toNatClampNeg x3) x4 x5)
def ok_X3_tell_35 (S : St) (x3 : Int32) (x4 : Int32) (x5 : Int32) : Prop := ((vp_in (x5 + 2) 240) ∧ ok_X3_tell_45 (sA S 25 (x5 + 2).toNatClampNeg x3) x4 x5)
set_option maxHeartbeats 4000000 in
set_option maxRecDepth 100000 in
theorem w_X3_tell_35 {p : Program} {l : Launch} {e : Env} {s : State} {m : MethodId} {args : Array Value} {below : List Frame} {meth : Method} {c : Code} {dC : Nat → ClassId} {dI : Nat → Nat → Nat} {cI cZ : ClassId} {a : Nat → Nat} {A : Nat → Prop} (C0 : Cx p s m args meth c RX3 cX3_tell none 6 wsX3_tell) (hK : va_K (dC, dI) vwCl (tI cI cZ) s) (hA : ∀ q, s.heap.size ≤ q → A q) (Z : St) (S : St) (x3 : Int32) (x4 : Int32) (x5 : Int32) (hok : ok_X3_tell_35 S x3 x4 x5) (hZ : rs_X3_tell_35 S x3 x4 x5 = Z) (H : Heap) (locs : List Loc) (hP : va_P (dC, dI) vwCl (cW cI cZ a S) H) (hD : va_D A (cW cI cZ a S)) (hS : va_S A s.heap H locs) (ls : Array Slot) (hl : lv_has ls 6 [(0, .ref (a 24)), (3, .int x3), (4, .int x4), (5, .int x5)]) : W p l e rm_X3_tell s m args below meth c H locs 0 0 (MQ below (va_Qv (fun u : St => u = Z) (cWB dC dI cI cZ a A) A) args s 0 0 A) (F0 m 35 ls []) := by
  obtain ⟨hx, hb, hr, hml, hown, hts, hlocks⟩ := id C0
  rw [ok_X3_tell_35] at hok
  rw [rs_X3_tell_35] at hZ
  refine lv_aload_n hx hb dX3_tell_35 rfl (lv_at hl 0 rfl) ?_
  refine va_get (D := (dC, dI)) (ci := 2) (v := .ref (a 25)) (C := RX3) (T := TX3) (N := 2) hx hb hts iX3_tell_X3 hown hK hP 24 rfl rfl 0 (by decide) (hts (.fieldLink RX3 9 "RiskHouse$Failures" "rows" "[I") (by decide +kernel)) (fun _ h9 => h9) rfl dX3_tell_36 ?_
  refine lv_iload hx hb dX3_tell_39 (lv_at hl 3 rfl) ?_
  refine lv_iconst (v := 2) hx hb dX3_tell_41 (by decide) ?_
  refine lv_iadd hx hb dX3_tell_42 ?_
  refine lv_iload_n hx hb dX3_tell_43 rfl (lv_at hl 1 rfl) ?_
  obtain ⟨h_1, hok⟩ := hok
  refine va_iast hx hb hK hP hD hS 25 0 rfl rfl h_1 dX3_tell_44 (fun H locs hP hD hS => ?_)
  have hP : va_P (dC, dI) vwCl (cW cI cZ a (sA S 25 (x5 + 2).toNatClampNeg x3)) H := hP
  have hD : va_D A (cW cI cZ a (sA S 25 (x5 + 2).toNatClampNeg x3)) := hD
  exact w_X3_tell_45 C0 hK hA Z (sA S 25 (x5 + 2).toNatClampNeg x3) x4 x5 hok hZ _ _ hP hD hS _ (lv_sub hl [0, 2, 3] rfl)
def rs_X3_tell_25 (S : St) (x2 : Int32) (x3 : Int32) (x4 : Int32) (x5 : Int32) : St := (rs_X3_tell_35 (sA S 25 (x5 + 1).toNatClampNeg x2) x3 x4 x5)
def ok_X3_tell_25 (S : St) (x2 : Int32) (x3 : Int32) (x4 : Int32) (x5 : Int32) : Prop := ((vp_in (x5 + 1) 240) ∧ ok_X3_tell_35 (sA S 25 (x5 + 1).toNatClampNeg x2) x3 x4 x5)
set_option maxHeartbeats 4000000 in
set_option maxRecDepth 100000 in
theorem w_X3_tell_25 {p : Program} {l : Launch} {e : Env} {s : State} {m : MethodId} {args : Array Value} {below : List Frame} {meth : Method} {c : Code} {dC : Nat → ClassId} {dI : Nat → Nat → Nat} {cI cZ : ClassId} {a : Nat → Nat} {A : Nat → Prop} (C0 : Cx p s m args meth c RX3 cX3_tell none 6 wsX3_tell) (hK : va_K (dC, dI) vwCl (tI cI cZ) s) (hA : ∀ q, s.heap.size ≤ q → A q) (Z : St) (S : St) (x2 : Int32) (x3 : Int32) (x4 : Int32) (x5 : Int32) (hok : ok_X3_tell_25 S x2 x3 x4 x5) (hZ : rs_X3_tell_25 S x2 x3 x4 x5 = Z) (H : Heap) (locs : List Loc) (hP : va_P (dC, dI) vwCl (cW cI cZ a S) H) (hD : va_D A (cW cI cZ a S)) (hS : va_S A s.heap H locs) (ls : Array Slot) (hl : lv_has ls 6 [(0, .ref (a 24)), (2, .int x2), (3, .int x3), (4, .int x4), (5, .int x5)]) : W p l e rm_X3_tell s m args below meth c H locs 0 0 (MQ below (va_Qv (fun u : St => u = Z) (cWB dC dI cI cZ a A) A) args s 0 0 A) (F0 m 25 ls []) := by
  obtain ⟨hx, hb, hr, hml, hown, hts, hlocks⟩ := id C0
  rw [ok_X3_tell_25] at hok
  rw [rs_X3_tell_25] at hZ
  refine lv_aload_n hx hb dX3_tell_25 rfl (lv_at hl 0 rfl) ?_
  refine va_get (D := (dC, dI)) (ci := 2) (v := .ref (a 25)) (C := RX3) (T := TX3) (N := 2) hx hb hts iX3_tell_X3 hown hK hP 24 rfl rfl 0 (by decide) (hts (.fieldLink RX3 9 "RiskHouse$Failures" "rows" "[I") (by decide +kernel)) (fun _ h9 => h9) rfl dX3_tell_26 ?_
  refine lv_iload hx hb dX3_tell_29 (lv_at hl 4 rfl) ?_
  refine lv_iconst (v := 1) hx hb dX3_tell_31 (by decide) ?_
  refine lv_iadd hx hb dX3_tell_32 ?_
  refine lv_iload_n hx hb dX3_tell_33 rfl (lv_at hl 1 rfl) ?_
  obtain ⟨h_1, hok⟩ := hok
  refine va_iast hx hb hK hP hD hS 25 0 rfl rfl h_1 dX3_tell_34 (fun H locs hP hD hS => ?_)
  have hP : va_P (dC, dI) vwCl (cW cI cZ a (sA S 25 (x5 + 1).toNatClampNeg x2)) H := hP
  have hD : va_D A (cW cI cZ a (sA S 25 (x5 + 1).toNatClampNeg x2)) := hD
  exact w_X3_tell_35 C0 hK hA Z (sA S 25 (x5 + 1).toNatClampNeg x2) x3 x4 x5 hok hZ _ _ hP hD hS _ (lv_sub hl [0, 2, 3, 4] rfl)
def rs_X3_tell (S : St) (x1 : Int32) (x2 : Int32) (x3 : Int32) (x4 : Int32) : St := (if 60 ≤ (S.1 961) then (rs_X3_tell_56 S) else (rs_X3_tell_25 (sA S 25 ((S.1 961) * 4).toNatClampNeg x1) x2 x3 x4 ((S.1 961) * 4)))
def ok_X3_tell (S : St) (x1 : Int32) (x2 : Int32) (x3 : Int32) (x4 : Int32) : Prop := (if 60 ≤ (S.1 961) then ok_X3_tell_56 S else ((vp_in ((S.1 961) * 4) 240) ∧ ok_X3_tell_25 (sA S 25 ((S.1 961) * 4).toNatClampNeg x1) x2 x3 x4 ((S.1 961) * 4)))
set_option maxHeartbeats 4000000 in
set_option maxRecDepth 100000 in
theorem w_X3_tell {p : Program} {l : Launch} {e : Env} {s : State} {m : MethodId} {args : Array Value} {below : List Frame} {meth : Method} {c : Code} {dC : Nat → ClassId} {dI : Nat → Nat → Nat} {cI cZ : ClassId} {a : Nat → Nat} {A : Nat → Prop} (C0 : Cx p s m args meth c RX3 cX3_tell none 6 wsX3_tell) (hK : va_K (dC, dI) vwCl (tI cI cZ) s) (hA : ∀ q, s.heap.size ≤ q → A q) (Z : St) (S : St) (x1 : Int32) (x2 : Int32) (x3 : Int32) (x4 : Int32) (hok : ok_X3_tell S x1 x2 x3 x4) (hZ : rs_X3_tell S x1 x2 x3 x4 = Z) (H : Heap) (locs : List Loc) (hP : va_P (dC, dI) vwCl (cW cI cZ a S) H) (hD : va_D A (cW cI cZ a S)) (hS : va_S A s.heap H locs) (ls : Array Slot) (hl : lv_has ls 6 [(0, .ref (a 24)), (1, .int x1), (2, .int x2), (3, .int x3), (4, .int x4)]) : W p l e rm_X3_tell s m args below meth c H locs 0 0 (MQ below (va_Qv (fun u : St => u = Z) (cWB dC dI cI cZ a A) A) args s 0 0 A) (F0 m 0 ls []) := by
  obtain ⟨hx, hb, hr, hml, hown, hts, hlocks⟩ := id C0
  rw [ok_X3_tell] at hok
  rw [rs_X3_tell] at hZ
  refine lv_aload_n hx hb dX3_tell_0 rfl (lv_at hl 0 rfl) ?_
  refine va_get (D := (dC, dI)) (ci := 2) (v := .int (S.1 961)) (C := RX3) (T := TX3) (N := 2) hx hb hts iX3_tell_X3 hown hK hP 24 rfl rfl 1 (by decide) (hts (.fieldLink RX3 13 "RiskHouse$Failures" "told" "I") (by decide +kernel)) (fun _ h9 => h9) rfl dX3_tell_1 ?_
  refine lv_bipush (v := 60) hx hb dX3_tell_4 (by decide) ?_
  refine lv_icmp_ge (tgt := 56) hx hb dX3_tell_6 (by decide) (fun c_1 => ?_) (fun c_1 => ?_)
  · have hok := okT hok c_1
    have hZ := rsT hZ c_1
    exact w_X3_tell_56 C0 hK hA Z S hok hZ _ _ hP hD hS _ (lv_sub hl [0] rfl)
  · have hok := okF hok c_1
    have hZ := rsF hZ c_1
    refine lv_aload_n hx hb dX3_tell_9 rfl (lv_at hl 0 rfl) ?_
    refine va_get (D := (dC, dI)) (ci := 2) (v := .int (S.1 961)) (C := RX3) (T := TX3) (N := 2) hx hb hts iX3_tell_X3 hown hK hP 24 rfl rfl 1 (by decide) (hts (.fieldLink RX3 13 "RiskHouse$Failures" "told" "I") (by decide +kernel)) (fun _ h9 => h9) rfl dX3_tell_10 ?_
    refine lv_iconst (v := 4) hx hb dX3_tell_13 (by decide) ?_
    refine lv_imul hx hb dX3_tell_14 ?_
    refine lv_istore (lv' := [(5, .int ((S.1 961) * 4)), (0, .ref (a 24)), (1, .int x1), (2, .int x2), (3, .int x3), (4, .int x4)]) hx hb dX3_tell_15 hl (by decide) rfl (fun ls hl => ?_)
    refine lv_aload_n hx hb dX3_tell_17 rfl (lv_at hl 1 rfl) ?_
    refine va_get (D := (dC, dI)) (ci := 2) (v := .ref (a 25)) (C := RX3) (T := TX3) (N := 2) hx hb hts iX3_tell_X3 hown hK hP 24 rfl rfl 0 (by decide) (hts (.fieldLink RX3 9 "RiskHouse$Failures" "rows" "[I") (by decide +kernel)) (fun _ h9 => h9) rfl dX3_tell_18 ?_
    refine lv_iload hx hb dX3_tell_21 (lv_at hl 0 rfl) ?_
    refine lv_iload_n hx hb dX3_tell_23 rfl (lv_at hl 2 rfl) ?_
    obtain ⟨h_2, hok⟩ := hok
    refine va_iast hx hb hK hP hD hS 25 0 rfl rfl h_2 dX3_tell_24 (fun H locs hP hD hS => ?_)
    have hP : va_P (dC, dI) vwCl (cW cI cZ a (sA S 25 ((S.1 961) * 4).toNatClampNeg x1)) H := hP
    have hD : va_D A (cW cI cZ a (sA S 25 ((S.1 961) * 4).toNatClampNeg x1)) := hD
    exact w_X3_tell_25 C0 hK hA Z (sA S 25 ((S.1 961) * 4).toNatClampNeg x1) x2 x3 x4 ((S.1 961) * 4) hok hZ _ _ hP hD hS _ (lv_sub hl [1, 3, 4, 5, 0] rfl)
set_option maxHeartbeats 4000000 in
set_option maxRecDepth 100000 in
theorem c_X3_tell (l : Launch) (dC : Nat → ClassId) (dI : Nat → Nat → Nat) (cI cZ : ClassId) (a : Nat → Nat) (sz : Nat) (S : St) (x1 : Int32) (x2 : Int32) (x3 : Int32) (x4 : Int32) (hok : ok_X3_tell S x1 x2 x3 x4) : Met l yX3_tell wsX3_tell rm_X3_tell (va_Pc [.ref (a 24), .int x1, .int x2, .int x3, .int x4] (cWP dC dI cI cZ a sz S)) (va_Qv (fun u : St => u = rs_X3_tell S x1 x2 x3 x4) (cWB dC dI cI cZ a (va_A (cW cI cZ a S) sz)) (va_A (cW cI cZ a S) sz)) 0 0 (va_A (cW cI cZ a S) sz) := by
  refine Met.ofW (cc := cX3_tell) (maxL := 6) (ret := none) (by decide) rfl ?_
  intro p e s m args below meth c s₁ B hml hv
  obtain ⟨rfl, hsz, hP, hK, hD0⟩ := hv
  subst hsz
  have hD := hD0.self (sz := s.heap.size)
  have hl := lv_entry ([.ref (a 24), .int x1, .int x2, .int x3, .int x4]) (n := 6) (Nat.le_of_ble_eq_true rfl)
  rw [lg_entry_eq]
  generalize (lg_sl ([.ref (a 24), .int x1, .int x2, .int x3, .int x4]) ++ List.replicate (6 - (lg_sl ([.ref (a 24), .int x1, .int x2, .int x3, .int x4])).length) Slot.unset).toArray = ls at hl ⊢
  have hl : lv_has ls 6 [(0, .ref (a 24)), (1, .int x1), (2, .int x2), (3, .int x3), (4, .int x4)] := hl
  exact w_X3_tell ⟨B.exec, B.bytes, B.returns, hml, findClass_of_methodNamed B.named, atoms_spec (ws := wsX3_tell) B.pre, B.notSynchronized⟩ hK (fun q h => Or.inr h) _ S x1 x2 x3 x4 hok rfl _ _ hP hD va_S.rf ls hl
abbrev rm_X3_kept : Room := { frames := 1, cells := 0, slots := 0, locals := 21 }
theorem iX3_kept_X3 : ∀ w ∈ wsX30, w ∈ wsX3_kept := by decide +kernel
def rs_X3_kept (S : St)  : Int32 × St := ((if (S.1 961) < 60 then (S.1 961) else 60), S)
def ok_X3_kept (S : St)  : Prop := True
set_option maxHeartbeats 4000000 in
set_option maxRecDepth 100000 in
theorem w_X3_kept {p : Program} {l : Launch} {e : Env} {s : State} {m : MethodId} {args : Array Value} {below : List Frame} {meth : Method} {c : Code} {dC : Nat → ClassId} {dI : Nat → Nat → Nat} {cI cZ : ClassId} {a : Nat → Nat} {A : Nat → Prop} (C0 : Cx p s m args meth c RX3 cX3_kept (some .int) 1 wsX3_kept) (hK : va_K (dC, dI) vwCl (tI cI cZ) s) (hA : ∀ q, s.heap.size ≤ q → A q) (Z : Int32 × St) (S : St)  (hok : ok_X3_kept S) (hZ : rs_X3_kept S = Z) (H : Heap) (locs : List Loc) (hP : va_P (dC, dI) vwCl (cW cI cZ a S) H) (hD : va_D A (cW cI cZ a S)) (hS : va_S A s.heap H locs) (ls : Array Slot) (hl : lv_has ls 1 [(0, .ref (a 24))]) : W p l e rm_X3_kept s m args below meth c H locs 0 0 (MQ below (va_Qi (fun (r : Int32) (u : St) => (r, u) = Z) (cWB dC dI cI cZ a A) A) args s 0 0 A) (F0 m 0 ls []) := by
  obtain ⟨hx, hb, hr, hml, hown, hts, hlocks⟩ := id C0
  rw [ok_X3_kept] at hok
  rw [rs_X3_kept] at hZ
  refine lv_bipush (v := 60) hx hb dX3_kept_0 (by decide) ?_
  refine lv_aload_n hx hb dX3_kept_2 rfl (lv_at hl 0 rfl) ?_
  refine va_get (D := (dC, dI)) (ci := 2) (v := .int (S.1 961)) (C := RX3) (T := TX3) (N := 2) hx hb hts iX3_kept_X3 hown hK hP 24 rfl rfl 1 (by decide) (hts (.fieldLink RX3 13 "RiskHouse$Failures" "told" "I") (by decide +kernel)) (fun _ h9 => h9) rfl dX3_kept_3 ?_
  refine va_mmin hx hb (by rw [hml]; exact hl.1.symm) hown (hts (.methodLink RX3 17 Lib.Math.min.name) (by decide +kernel)) (hts (.static Lib.Math.min.name) (by decide +kernel)) (hts (.initialized "java/lang/Math") (by decide +kernel)) (hts (.code Lib.Math.min.name Lib.Math.min.code 2 (some .int)) (by decide +kernel)) (Nat.le_of_ble_eq_true rfl) (Nat.le_of_ble_eq_true rfl) (Nat.zero_le _) (Nat.zero_le _) dX3_kept_6 ?_
  exact W.iret (v := (if (S.1 961) < 60 then (S.1 961) else 60)) hx hb hr (fun t ht hW => ⟨⟨(if (S.1 961) < 60 then (S.1 961) else 60), S, rfl, hZ, by rw [ht]; exact hP, va_K.moved hW.alike hK, hD⟩, hS.F ht⟩) hS.2.2 dX3_kept_9 hlocks
set_option maxHeartbeats 4000000 in
set_option maxRecDepth 100000 in
theorem c_X3_kept (l : Launch) (dC : Nat → ClassId) (dI : Nat → Nat → Nat) (cI cZ : ClassId) (a : Nat → Nat) (sz : Nat) (S : St)  (hok : ok_X3_kept S) : Met l yX3_kept wsX3_kept rm_X3_kept (va_Pc [.ref (a 24)] (cWP dC dI cI cZ a sz S)) (va_Qi (fun (r : Int32) (u : St) => (r, u) = rs_X3_kept S) (cWB dC dI cI cZ a (va_A (cW cI cZ a S) sz)) (va_A (cW cI cZ a S) sz)) 0 0 (va_A (cW cI cZ a S) sz) := by
  refine Met.ofW (cc := cX3_kept) (maxL := 1) (ret := (some .int)) (by decide) rfl ?_
  intro p e s m args below meth c s₁ B hml hv
  obtain ⟨rfl, hsz, hP, hK, hD0⟩ := hv
  subst hsz
  have hD := hD0.self (sz := s.heap.size)
  have hl := lv_entry ([.ref (a 24)]) (n := 1) (Nat.le_of_ble_eq_true rfl)
  rw [lg_entry_eq]
  generalize (lg_sl ([.ref (a 24)]) ++ List.replicate (1 - (lg_sl ([.ref (a 24)])).length) Slot.unset).toArray = ls at hl ⊢
  have hl : lv_has ls 1 [(0, .ref (a 24))] := hl
  exact w_X3_kept ⟨B.exec, B.bytes, B.returns, hml, findClass_of_methodNamed B.named, atoms_spec (ws := wsX3_kept) B.pre, B.notSynchronized⟩ hK (fun q h => Or.inr h) _ S hok rfl _ _ hP hD va_S.rf ls hl
abbrev rm_X3_answer : Room := { frames := 0, cells := 0, slots := 0, locals := 0 }
theorem iX3_answer_X3 : ∀ w ∈ wsX30, w ∈ wsX3_answer := by decide +kernel
def rs_X3_answer (S : St) (x1 : Int32) (x2 : Int32) : Int32 × St := (((S.2 25) ((x1 * 4) + x2).toNatClampNeg), S)
def ok_X3_answer (S : St) (x1 : Int32) (x2 : Int32) : Prop := ((vp_in ((x1 * 4) + x2) 240) ∧ True)
set_option maxHeartbeats 4000000 in
set_option maxRecDepth 100000 in
theorem w_X3_answer {p : Program} {l : Launch} {e : Env} {s : State} {m : MethodId} {args : Array Value} {below : List Frame} {meth : Method} {c : Code} {dC : Nat → ClassId} {dI : Nat → Nat → Nat} {cI cZ : ClassId} {a : Nat → Nat} {A : Nat → Prop} (C0 : Cx p s m args meth c RX3 cX3_answer (some .int) 3 wsX3_answer) (hK : va_K (dC, dI) vwCl (tI cI cZ) s) (hA : ∀ q, s.heap.size ≤ q → A q) (Z : Int32 × St) (S : St) (x1 : Int32) (x2 : Int32) (hok : ok_X3_answer S x1 x2) (hZ : rs_X3_answer S x1 x2 = Z) (H : Heap) (locs : List Loc) (hP : va_P (dC, dI) vwCl (cW cI cZ a S) H) (hD : va_D A (cW cI cZ a S)) (hS : va_S A s.heap H locs) (ls : Array Slot) (hl : lv_has ls 3 [(0, .ref (a 24)), (1, .int x1), (2, .int x2)]) : W p l e rm_X3_answer s m args below meth c H locs 0 0 (MQ below (va_Qi (fun (r : Int32) (u : St) => (r, u) = Z) (cWB dC dI cI cZ a A) A) args s 0 0 A) (F0 m 0 ls []) := by
  obtain ⟨hx, hb, hr, hml, hown, hts, hlocks⟩ := id C0
  rw [ok_X3_answer] at hok
  rw [rs_X3_answer] at hZ
  refine lv_aload_n hx hb dX3_answer_0 rfl (lv_at hl 0 rfl) ?_
  refine va_get (D := (dC, dI)) (ci := 2) (v := .ref (a 25)) (C := RX3) (T := TX3) (N := 2) hx hb hts iX3_answer_X3 hown hK hP 24 rfl rfl 0 (by decide) (hts (.fieldLink RX3 9 "RiskHouse$Failures" "rows" "[I") (by decide +kernel)) (fun _ h9 => h9) rfl dX3_answer_1 ?_
  refine lv_iload_n hx hb dX3_answer_4 rfl (lv_at hl 1 rfl) ?_
  refine lv_iconst (v := 4) hx hb dX3_answer_5 (by decide) ?_
  refine lv_imul hx hb dX3_answer_6 ?_
  refine lv_iload_n hx hb dX3_answer_7 rfl (lv_at hl 2 rfl) ?_
  refine lv_iadd hx hb dX3_answer_8 ?_
  obtain ⟨h_1, hok⟩ := hok
  refine va_iald (f := (S.2 25)) hx hb hK hP 25 0 rfl rfl h_1 dX3_answer_9 ?_
  exact W.iret (v := ((S.2 25) ((x1 * 4) + x2).toNatClampNeg)) hx hb hr (fun t ht hW => ⟨⟨((S.2 25) ((x1 * 4) + x2).toNatClampNeg), S, rfl, hZ, by rw [ht]; exact hP, va_K.moved hW.alike hK, hD⟩, hS.F ht⟩) hS.2.2 dX3_answer_10 hlocks
set_option maxHeartbeats 4000000 in
set_option maxRecDepth 100000 in
theorem c_X3_answer (l : Launch) (dC : Nat → ClassId) (dI : Nat → Nat → Nat) (cI cZ : ClassId) (a : Nat → Nat) (sz : Nat) (S : St) (x1 : Int32) (x2 : Int32) (hok : ok_X3_answer S x1 x2) : Met l yX3_answer wsX3_answer rm_X3_answer (va_Pc [.ref (a 24), .int x1, .int x2] (cWP dC dI cI cZ a sz S)) (va_Qi (fun (r : Int32) (u : St) => (r, u) = rs_X3_answer S x1 x2) (cWB dC dI cI cZ a (va_A (cW cI cZ a S) sz)) (va_A (cW cI cZ a S) sz)) 0 0 (va_A (cW cI cZ a S) sz) := by
  refine Met.ofW (cc := cX3_answer) (maxL := 3) (ret := (some .int)) (by decide) rfl ?_
  intro p e s m args below meth c s₁ B hml hv
  obtain ⟨rfl, hsz, hP, hK, hD0⟩ := hv
  subst hsz
  have hD := hD0.self (sz := s.heap.size)
  have hl := lv_entry ([.ref (a 24), .int x1, .int x2]) (n := 3) (Nat.le_of_ble_eq_true rfl)
  rw [lg_entry_eq]
  generalize (lg_sl ([.ref (a 24), .int x1, .int x2]) ++ List.replicate (3 - (lg_sl ([.ref (a 24), .int x1, .int x2])).length) Slot.unset).toArray = ls at hl ⊢
  have hl : lv_has ls 3 [(0, .ref (a 24)), (1, .int x1), (2, .int x2)] := hl
  exact w_X3_answer ⟨B.exec, B.bytes, B.returns, hml, findClass_of_methodNamed B.named, atoms_spec (ws := wsX3_answer) B.pre, B.notSynchronized⟩ hK (fun q h => Or.inr h) _ S x1 x2 hok rfl _ _ hP hD va_S.rf ls hl
