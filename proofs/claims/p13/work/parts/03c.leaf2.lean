abbrev rm_X5_add : Room := { frames := 0, cells := 0, slots := 0, locals := 0 }
theorem iX5_add_X5 : ∀ w ∈ wsX50, w ∈ wsX5_add := by decide +kernel
def rs_X5_add_19 (S : St) (x3 : Int32) : Int32 × St := (x3, (sI S 127 ((S.1 127) + 1)))
def ok_X5_add_19 (S : St) (x3 : Int32) : Prop := True
set_option maxHeartbeats 4000000 in
set_option maxRecDepth 100000 in
theorem w_X5_add_19 {p : Program} {l : Launch} {e : Env} {s : State} {m : MethodId} {args : Array Value} {below : List Frame} {meth : Method} {c : Code} {dC : Nat → ClassId} {dI : Nat → Nat → Nat} {cI cZ : ClassId} {a : Nat → Nat} {A : Nat → Prop} (C0 : Cx p s m args meth c RX5 cX5_add (some .int) 4 wsX5_add) (hK : va_K (dC, dI) vwCl (tI cI cZ) s) (hA : ∀ q, s.heap.size ≤ q → A q) (Z : Int32 × St) (S : St) (x3 : Int32) (hok : ok_X5_add_19 S x3) (hZ : rs_X5_add_19 S x3 = Z) (H : Heap) (locs : List Loc) (hP : va_P (dC, dI) vwCl (cW cI cZ a S) H) (hD : va_D A (cW cI cZ a S)) (hS : va_S A s.heap H locs) (ls : Array Slot) (hl : lv_has ls 4 [(0, .ref (a 3)), (3, .int x3)]) : W p l e rm_X5_add s m args below meth c H locs 0 0 (MQ below (va_Qi (fun (r : Int32) (u : St) => (r, u) = Z) (cWB dC dI cI cZ a A) A) args s 0 0 A) (F0 m 19 ls []) := by
  obtain ⟨hx, hb, hr, hml, hown, hts, hlocks⟩ := id C0
  rw [ok_X5_add_19] at hok
  rw [rs_X5_add_19] at hZ
  refine lv_aload_n hx hb dX5_add_19 rfl (lv_at hl 0 rfl) ?_
  refine lv_dup hx hb dX5_add_20 rfl ?_
  refine va_get (D := (dC, dI)) (ci := 4) (v := .int (S.1 127)) (C := RX5) (T := TX5) (N := 8) hx hb hts iX5_add_X5 hown hK hP 3 rfl rfl 7 (by decide) (hts (.fieldLink RX5 32 "RiskHouse$Rules" "size" "I") (by decide +kernel)) (fun _ h9 => h9) rfl dX5_add_21 ?_
  refine lv_iconst (v := 1) hx hb dX5_add_24 (by decide) ?_
  refine lv_iadd hx hb dX5_add_25 ?_
  refine va_put (D := (dC, dI)) (ci := 4) (v := .int ((S.1 127) + 1)) (ty := .int) (C := RX5) (T := TX5) (N := 8) hx hb hts iX5_add_X5 tyX5 tyX5_ok nmX5 hown hK hP hD hS 3 rfl rfl 7 (by decide) (hts (.fieldLink RX5 32 "RiskHouse$Rules" "size" "I") (by decide +kernel)) (fun _ h9 => h9) rfl (by decide +kernel) rfl rfl (Nat.le_of_ble_eq_true rfl) dX5_add_26 (fun H locs hP hD hS => ?_)
  have hP : va_P (dC, dI) vwCl (cW cI cZ a (sI S 127 ((S.1 127) + 1))) H := hP
  have hD : va_D A (cW cI cZ a (sI S 127 ((S.1 127) + 1))) := hD
  refine lv_iload_n hx hb dX5_add_29 rfl (lv_at hl 1 rfl) ?_
  exact W.iret (v := x3) hx hb hr (fun t ht hW => ⟨⟨x3, (sI S 127 ((S.1 127) + 1)), rfl, hZ, by rw [ht]; exact hP, va_K.moved hW.alike hK, hD⟩, hS.F ht⟩) hS.2.2 dX5_add_30 hlocks
def rs_X5_add_12 (S : St) (x2 : Int32) (x3 : Int32) : Int32 × St := (rs_X5_add_19 (sA S 5 x3.toNatClampNeg (vp_nar .boolean x2)) x3)
def ok_X5_add_12 (S : St) (x2 : Int32) (x3 : Int32) : Prop := ((vp_in x3 12) ∧ ok_X5_add_19 (sA S 5 x3.toNatClampNeg (vp_nar .boolean x2)) x3)
set_option maxHeartbeats 4000000 in
set_option maxRecDepth 100000 in
theorem w_X5_add_12 {p : Program} {l : Launch} {e : Env} {s : State} {m : MethodId} {args : Array Value} {below : List Frame} {meth : Method} {c : Code} {dC : Nat → ClassId} {dI : Nat → Nat → Nat} {cI cZ : ClassId} {a : Nat → Nat} {A : Nat → Prop} (C0 : Cx p s m args meth c RX5 cX5_add (some .int) 4 wsX5_add) (hK : va_K (dC, dI) vwCl (tI cI cZ) s) (hA : ∀ q, s.heap.size ≤ q → A q) (Z : Int32 × St) (S : St) (x2 : Int32) (x3 : Int32) (hok : ok_X5_add_12 S x2 x3) (hZ : rs_X5_add_12 S x2 x3 = Z) (H : Heap) (locs : List Loc) (hP : va_P (dC, dI) vwCl (cW cI cZ a S) H) (hD : va_D A (cW cI cZ a S)) (hS : va_S A s.heap H locs) (ls : Array Slot) (hl : lv_has ls 4 [(0, .ref (a 3)), (2, .int x2), (3, .int x3)]) : W p l e rm_X5_add s m args below meth c H locs 0 0 (MQ below (va_Qi (fun (r : Int32) (u : St) => (r, u) = Z) (cWB dC dI cI cZ a A) A) args s 0 0 A) (F0 m 12 ls []) := by
  obtain ⟨hx, hb, hr, hml, hown, hts, hlocks⟩ := id C0
  rw [ok_X5_add_12] at hok
  rw [rs_X5_add_12] at hZ
  refine lv_aload_n hx hb dX5_add_12 rfl (lv_at hl 0 rfl) ?_
  refine va_get (D := (dC, dI)) (ci := 4) (v := .ref (a 5)) (C := RX5) (T := TX5) (N := 8) hx hb hts iX5_add_X5 hown hK hP 3 rfl rfl 1 (by decide) (hts (.fieldLink RX5 13 "RiskHouse$Rules" "start" "[Z") (by decide +kernel)) (fun _ h9 => h9) rfl dX5_add_13 ?_
  refine lv_iload_n hx hb dX5_add_16 rfl (lv_at hl 2 rfl) ?_
  refine lv_iload_n hx hb dX5_add_17 rfl (lv_at hl 1 rfl) ?_
  obtain ⟨h_1, hok⟩ := hok
  refine va_zast hx hb hK hP hD hS 5 1 rfl rfl h_1 dX5_add_18 (fun H locs hP hD hS => ?_)
  have hP : va_P (dC, dI) vwCl (cW cI cZ a (sA S 5 x3.toNatClampNeg (vp_nar .boolean x2))) H := hP
  have hD : va_D A (cW cI cZ a (sA S 5 x3.toNatClampNeg (vp_nar .boolean x2))) := hD
  exact w_X5_add_19 C0 hK hA Z (sA S 5 x3.toNatClampNeg (vp_nar .boolean x2)) x3 hok hZ _ _ hP hD hS _ (lv_sub hl [0, 2] rfl)
def rs_X5_add (S : St) (x1 : Int32) (x2 : Int32) : Int32 × St := (rs_X5_add_12 (sA S 4 (S.1 127).toNatClampNeg x1) x2 (S.1 127))
def ok_X5_add (S : St) (x1 : Int32) (x2 : Int32) : Prop := ((vp_in (S.1 127) 12) ∧ ok_X5_add_12 (sA S 4 (S.1 127).toNatClampNeg x1) x2 (S.1 127))
set_option maxHeartbeats 4000000 in
set_option maxRecDepth 100000 in
theorem w_X5_add {p : Program} {l : Launch} {e : Env} {s : State} {m : MethodId} {args : Array Value} {below : List Frame} {meth : Method} {c : Code} {dC : Nat → ClassId} {dI : Nat → Nat → Nat} {cI cZ : ClassId} {a : Nat → Nat} {A : Nat → Prop} (C0 : Cx p s m args meth c RX5 cX5_add (some .int) 4 wsX5_add) (hK : va_K (dC, dI) vwCl (tI cI cZ) s) (hA : ∀ q, s.heap.size ≤ q → A q) (Z : Int32 × St) (S : St) (x1 : Int32) (x2 : Int32) (hok : ok_X5_add S x1 x2) (hZ : rs_X5_add S x1 x2 = Z) (H : Heap) (locs : List Loc) (hP : va_P (dC, dI) vwCl (cW cI cZ a S) H) (hD : va_D A (cW cI cZ a S)) (hS : va_S A s.heap H locs) (ls : Array Slot) (hl : lv_has ls 4 [(0, .ref (a 3)), (1, .int x1), (2, .int x2)]) : W p l e rm_X5_add s m args below meth c H locs 0 0 (MQ below (va_Qi (fun (r : Int32) (u : St) => (r, u) = Z) (cWB dC dI cI cZ a A) A) args s 0 0 A) (F0 m 0 ls []) := by
  obtain ⟨hx, hb, hr, hml, hown, hts, hlocks⟩ := id C0
  rw [ok_X5_add] at hok
  rw [rs_X5_add] at hZ
  refine lv_aload_n hx hb dX5_add_0 rfl (lv_at hl 0 rfl) ?_
  refine va_get (D := (dC, dI)) (ci := 4) (v := .int (S.1 127)) (C := RX5) (T := TX5) (N := 8) hx hb hts iX5_add_X5 hown hK hP 3 rfl rfl 7 (by decide) (hts (.fieldLink RX5 32 "RiskHouse$Rules" "size" "I") (by decide +kernel)) (fun _ h9 => h9) rfl dX5_add_1 ?_
  refine lv_istore_n (lv' := [(3, .int (S.1 127)), (0, .ref (a 3)), (1, .int x1), (2, .int x2)]) hx hb dX5_add_4 rfl hl (by decide) rfl (fun ls hl => ?_)
  refine lv_aload_n hx hb dX5_add_5 rfl (lv_at hl 1 rfl) ?_
  refine va_get (D := (dC, dI)) (ci := 4) (v := .ref (a 4)) (C := RX5) (T := TX5) (N := 8) hx hb hts iX5_add_X5 hown hK hP 3 rfl rfl 0 (by decide) (hts (.fieldLink RX5 9 "RiskHouse$Rules" "edition" "[I") (by decide +kernel)) (fun _ h9 => h9) rfl dX5_add_6 ?_
  refine lv_iload_n hx hb dX5_add_9 rfl (lv_at hl 0 rfl) ?_
  refine lv_iload_n hx hb dX5_add_10 rfl (lv_at hl 2 rfl) ?_
  obtain ⟨h_1, hok⟩ := hok
  refine va_iast hx hb hK hP hD hS 4 0 rfl rfl h_1 dX5_add_11 (fun H locs hP hD hS => ?_)
  have hP : va_P (dC, dI) vwCl (cW cI cZ a (sA S 4 (S.1 127).toNatClampNeg x1)) H := hP
  have hD : va_D A (cW cI cZ a (sA S 4 (S.1 127).toNatClampNeg x1)) := hD
  exact w_X5_add_12 C0 hK hA Z (sA S 4 (S.1 127).toNatClampNeg x1) x2 (S.1 127) hok hZ _ _ hP hD hS _ (lv_sub hl [1, 3, 0] rfl)
set_option maxHeartbeats 4000000 in
set_option maxRecDepth 100000 in
theorem c_X5_add (l : Launch) (dC : Nat → ClassId) (dI : Nat → Nat → Nat) (cI cZ : ClassId) (a : Nat → Nat) (sz : Nat) (S : St) (x1 : Int32) (x2 : Int32) (hok : ok_X5_add S x1 x2) : Met l yX5_add wsX5_add rm_X5_add (va_Pc [.ref (a 3), .int x1, .int x2] (cWP dC dI cI cZ a sz S)) (va_Qi (fun (r : Int32) (u : St) => (r, u) = rs_X5_add S x1 x2) (cWB dC dI cI cZ a (va_A (cW cI cZ a S) sz)) (va_A (cW cI cZ a S) sz)) 0 0 (va_A (cW cI cZ a S) sz) := by
  refine Met.ofW (cc := cX5_add) (maxL := 4) (ret := (some .int)) (by decide) rfl ?_
  intro p e s m args below meth c s₁ B hml hv
  obtain ⟨rfl, hsz, hP, hK, hD0⟩ := hv
  subst hsz
  have hD := hD0.self (sz := s.heap.size)
  have hl := lv_entry ([.ref (a 3), .int x1, .int x2]) (n := 4) (Nat.le_of_ble_eq_true rfl)
  rw [lg_entry_eq]
  generalize (lg_sl ([.ref (a 3), .int x1, .int x2]) ++ List.replicate (4 - (lg_sl ([.ref (a 3), .int x1, .int x2])).length) Slot.unset).toArray = ls at hl ⊢
  have hl : lv_has ls 4 [(0, .ref (a 3)), (1, .int x1), (2, .int x2)] := hl
  exact w_X5_add ⟨B.exec, B.bytes, B.returns, hml, findClass_of_methodNamed B.named, atoms_spec (ws := wsX5_add) B.pre, B.notSynchronized⟩ hK (fun q h => Or.inr h) _ S x1 x2 hok rfl _ _ hP hD va_S.rf ls hl
abbrev rm_X5_append : Room := { frames := 0, cells := 0, slots := 0, locals := 0 }
theorem iX5_append_X5 : ∀ w ∈ wsX50, w ∈ wsX5_append := by decide +kernel
def rs_X5_append_29 (S : St) (x1 : Int32) : Int32 × St := ((((sA S 6 x1.toNatClampNeg (((S.2 6) x1.toNatClampNeg) + 1)).2 6) x1.toNatClampNeg), (sA S 6 x1.toNatClampNeg (((S.2 6) x1.toNatClampNeg) + 1)))
def ok_X5_append_29 (S : St) (x1 : Int32) : Prop := ((vp_in x1 12) ∧ ((vp_in x1 12) ∧ ((vp_in x1 12) ∧ True)))
set_option maxHeartbeats 4000000 in
set_option maxRecDepth 100000 in
theorem w_X5_append_29 {p : Program} {l : Launch} {e : Env} {s : State} {m : MethodId} {args : Array Value} {below : List Frame} {meth : Method} {c : Code} {dC : Nat → ClassId} {dI : Nat → Nat → Nat} {cI cZ : ClassId} {a : Nat → Nat} {A : Nat → Prop} (C0 : Cx p s m args meth c RX5 cX5_append (some .int) 5 wsX5_append) (hK : va_K (dC, dI) vwCl (tI cI cZ) s) (hA : ∀ q, s.heap.size ≤ q → A q) (Z : Int32 × St) (S : St) (x1 : Int32) (hok : ok_X5_append_29 S x1) (hZ : rs_X5_append_29 S x1 = Z) (H : Heap) (locs : List Loc) (hP : va_P (dC, dI) vwCl (cW cI cZ a S) H) (hD : va_D A (cW cI cZ a S)) (hS : va_S A s.heap H locs) (ls : Array Slot) (hl : lv_has ls 5 [(0, .ref (a 3)), (1, .int x1)]) : W p l e rm_X5_append s m args below meth c H locs 0 0 (MQ below (va_Qi (fun (r : Int32) (u : St) => (r, u) = Z) (cWB dC dI cI cZ a A) A) args s 0 0 A) (F0 m 29 ls []) := by
  obtain ⟨hx, hb, hr, hml, hown, hts, hlocks⟩ := id C0
  rw [ok_X5_append_29] at hok
  rw [rs_X5_append_29] at hZ
  refine lv_aload_n hx hb dX5_append_29 rfl (lv_at hl 0 rfl) ?_
  refine va_get (D := (dC, dI)) (ci := 4) (v := .ref (a 6)) (C := RX5) (T := TX5) (N := 8) hx hb hts iX5_append_X5 hown hK hP 3 rfl rfl 2 (by decide) (hts (.fieldLink RX5 17 "RiskHouse$Rules" "length" "[I") (by decide +kernel)) (fun _ h9 => h9) rfl dX5_append_30 ?_
  refine lv_iload_n hx hb dX5_append_33 rfl (lv_at hl 1 rfl) ?_
  refine lv_dup2_11 hx hb dX5_append_34 rfl rfl ?_
  obtain ⟨h_1, hok⟩ := hok
  refine va_iald (f := (S.2 6)) hx hb hK hP 6 0 rfl rfl h_1 dX5_append_35 ?_
  refine lv_iconst (v := 1) hx hb dX5_append_36 (by decide) ?_
  refine lv_iadd hx hb dX5_append_37 ?_
  obtain ⟨h_2, hok⟩ := hok
  refine va_iast hx hb hK hP hD hS 6 0 rfl rfl h_2 dX5_append_38 (fun H locs hP hD hS => ?_)
  have hP : va_P (dC, dI) vwCl (cW cI cZ a (sA S 6 x1.toNatClampNeg (((S.2 6) x1.toNatClampNeg) + 1))) H := hP
  have hD : va_D A (cW cI cZ a (sA S 6 x1.toNatClampNeg (((S.2 6) x1.toNatClampNeg) + 1))) := hD
  refine lv_aload_n hx hb dX5_append_39 rfl (lv_at hl 0 rfl) ?_
  refine va_get (D := (dC, dI)) (ci := 4) (v := .ref (a 6)) (C := RX5) (T := TX5) (N := 8) hx hb hts iX5_append_X5 hown hK hP 3 rfl rfl 2 (by decide) (hts (.fieldLink RX5 17 "RiskHouse$Rules" "length" "[I") (by decide +kernel)) (fun _ h9 => h9) rfl dX5_append_40 ?_
  refine lv_iload_n hx hb dX5_append_43 rfl (lv_at hl 1 rfl) ?_
  obtain ⟨h_3, hok⟩ := hok
  refine va_iald (f := ((sA S 6 x1.toNatClampNeg (((S.2 6) x1.toNatClampNeg) + 1)).2 6)) hx hb hK hP 6 0 rfl rfl h_3 dX5_append_44 ?_
  exact W.iret (v := (((sA S 6 x1.toNatClampNeg (((S.2 6) x1.toNatClampNeg) + 1)).2 6) x1.toNatClampNeg)) hx hb hr (fun t ht hW => ⟨⟨(((sA S 6 x1.toNatClampNeg (((S.2 6) x1.toNatClampNeg) + 1)).2 6) x1.toNatClampNeg), (sA S 6 x1.toNatClampNeg (((S.2 6) x1.toNatClampNeg) + 1)), rfl, hZ, by rw [ht]; exact hP, va_K.moved hW.alike hK, hD⟩, hS.F ht⟩) hS.2.2 dX5_append_45 hlocks
def rs_X5_append_21 (S : St) (x1 : Int32) (x3 : Int32) (x4 : Int32) : Int32 × St := (rs_X5_append_29 (sA S 10 x4.toNatClampNeg x3) x1)
def ok_X5_append_21 (S : St) (x1 : Int32) (x3 : Int32) (x4 : Int32) : Prop := ((vp_in x4 192) ∧ ok_X5_append_29 (sA S 10 x4.toNatClampNeg x3) x1)
set_option maxHeartbeats 4000000 in
set_option maxRecDepth 100000 in
theorem w_X5_append_21 {p : Program} {l : Launch} {e : Env} {s : State} {m : MethodId} {args : Array Value} {below : List Frame} {meth : Method} {c : Code} {dC : Nat → ClassId} {dI : Nat → Nat → Nat} {cI cZ : ClassId} {a : Nat → Nat} {A : Nat → Prop} (C0 : Cx p s m args meth c RX5 cX5_append (some .int) 5 wsX5_append) (hK : va_K (dC, dI) vwCl (tI cI cZ) s) (hA : ∀ q, s.heap.size ≤ q → A q) (Z : Int32 × St) (S : St) (x1 : Int32) (x3 : Int32) (x4 : Int32) (hok : ok_X5_append_21 S x1 x3 x4) (hZ : rs_X5_append_21 S x1 x3 x4 = Z) (H : Heap) (locs : List Loc) (hP : va_P (dC, dI) vwCl (cW cI cZ a S) H) (hD : va_D A (cW cI cZ a S)) (hS : va_S A s.heap H locs) (ls : Array Slot) (hl : lv_has ls 5 [(0, .ref (a 3)), (1, .int x1), (3, .int x3), (4, .int x4)]) : W p l e rm_X5_append s m args below meth c H locs 0 0 (MQ below (va_Qi (fun (r : Int32) (u : St) => (r, u) = Z) (cWB dC dI cI cZ a A) A) args s 0 0 A) (F0 m 21 ls []) := by
  obtain ⟨hx, hb, hr, hml, hown, hts, hlocks⟩ := id C0
  rw [ok_X5_append_21] at hok
  rw [rs_X5_append_21] at hZ
  refine lv_aload_n hx hb dX5_append_21 rfl (lv_at hl 0 rfl) ?_
  refine va_get (D := (dC, dI)) (ci := 4) (v := .ref (a 10)) (C := RX5) (T := TX5) (N := 8) hx hb hts iX5_append_X5 hown hK hP 3 rfl rfl 6 (by decide) (hts (.fieldLink RX5 29 "RiskHouse$Rules" "numbers" "[I") (by decide +kernel)) (fun _ h9 => h9) rfl dX5_append_22 ?_
  refine lv_iload hx hb dX5_append_25 (lv_at hl 3 rfl) ?_
  refine lv_iload_n hx hb dX5_append_27 rfl (lv_at hl 2 rfl) ?_
  obtain ⟨h_1, hok⟩ := hok
  refine va_iast hx hb hK hP hD hS 10 0 rfl rfl h_1 dX5_append_28 (fun H locs hP hD hS => ?_)
  have hP : va_P (dC, dI) vwCl (cW cI cZ a (sA S 10 x4.toNatClampNeg x3)) H := hP
  have hD : va_D A (cW cI cZ a (sA S 10 x4.toNatClampNeg x3)) := hD
  exact w_X5_append_29 C0 hK hA Z (sA S 10 x4.toNatClampNeg x3) x1 hok hZ _ _ hP hD hS _ (lv_sub hl [0, 1] rfl)
def rs_X5_append (S : St) (x1 : Int32) (x2 : Int32) (x3 : Int32) : Int32 × St := (rs_X5_append_21 (sA S 9 ((x1 * 16) + ((S.2 6) x1.toNatClampNeg)).toNatClampNeg x2) x1 x3 ((x1 * 16) + ((S.2 6) x1.toNatClampNeg)))
def ok_X5_append (S : St) (x1 : Int32) (x2 : Int32) (x3 : Int32) : Prop := ((vp_in x1 12) ∧ ((vp_in ((x1 * 16) + ((S.2 6) x1.toNatClampNeg)) 192) ∧ ok_X5_append_21 (sA S 9 ((x1 * 16) + ((S.2 6) x1.toNatClampNeg)).toNatClampNeg x2) x1 x3 ((x1 * 16) + ((S.2 6) x1.toNatClampNeg))))
set_option maxHeartbeats 4000000 in
set_option maxRecDepth 100000 in
theorem w_X5_append {p : Program} {l : Launch} {e : Env} {s : State} {m : MethodId} {args : Array Value} {below : List Frame} {meth : Method} {c : Code} {dC : Nat → ClassId} {dI : Nat → Nat → Nat} {cI cZ : ClassId} {a : Nat → Nat} {A : Nat → Prop} (C0 : Cx p s m args meth c RX5 cX5_append (some .int) 5 wsX5_append) (hK : va_K (dC, dI) vwCl (tI cI cZ) s) (hA : ∀ q, s.heap.size ≤ q → A q) (Z : Int32 × St) (S : St) (x1 : Int32) (x2 : Int32) (x3 : Int32) (hok : ok_X5_append S x1 x2 x3) (hZ : rs_X5_append S x1 x2 x3 = Z) (H : Heap) (locs : List Loc) (hP : va_P (dC, dI) vwCl (cW cI cZ a S) H) (hD : va_D A (cW cI cZ a S)) (hS : va_S A s.heap H locs) (ls : Array Slot) (hl : lv_has ls 5 [(0, .ref (a 3)), (1, .int x1), (2, .int x2), (3, .int x3)]) : W p l e rm_X5_append s m args below meth c H locs 0 0 (MQ below (va_Qi (fun (r : Int32) (u : St) => (r, u) = Z) (cWB dC dI cI cZ a A) A) args s 0 0 A) (F0 m 0 ls []) := by
  obtain ⟨hx, hb, hr, hml, hown, hts, hlocks⟩ := id C0
  rw [ok_X5_append] at hok
  rw [rs_X5_append] at hZ
  refine lv_iload_n hx hb dX5_append_0 rfl (lv_at hl 1 rfl) ?_
  refine lv_bipush (v := 16) hx hb dX5_append_1 (by decide) ?_
  refine lv_imul hx hb dX5_append_3 ?_
  refine lv_aload_n hx hb dX5_append_4 rfl (lv_at hl 0 rfl) ?_
  refine va_get (D := (dC, dI)) (ci := 4) (v := .ref (a 6)) (C := RX5) (T := TX5) (N := 8) hx hb hts iX5_append_X5 hown hK hP 3 rfl rfl 2 (by decide) (hts (.fieldLink RX5 17 "RiskHouse$Rules" "length" "[I") (by decide +kernel)) (fun _ h9 => h9) rfl dX5_append_5 ?_
  refine lv_iload_n hx hb dX5_append_8 rfl (lv_at hl 1 rfl) ?_
  obtain ⟨h_1, hok⟩ := hok
  refine va_iald (f := (S.2 6)) hx hb hK hP 6 0 rfl rfl h_1 dX5_append_9 ?_
  refine lv_iadd hx hb dX5_append_10 ?_
  refine lv_istore (lv' := [(4, .int ((x1 * 16) + ((S.2 6) x1.toNatClampNeg))), (0, .ref (a 3)), (1, .int x1), (2, .int x2), (3, .int x3)]) hx hb dX5_append_11 hl (by decide) rfl (fun ls hl => ?_)
  refine lv_aload_n hx hb dX5_append_13 rfl (lv_at hl 1 rfl) ?_
  refine va_get (D := (dC, dI)) (ci := 4) (v := .ref (a 9)) (C := RX5) (T := TX5) (N := 8) hx hb hts iX5_append_X5 hown hK hP 3 rfl rfl 5 (by decide) (hts (.fieldLink RX5 26 "RiskHouse$Rules" "codes" "[I") (by decide +kernel)) (fun _ h9 => h9) rfl dX5_append_14 ?_
  refine lv_iload hx hb dX5_append_17 (lv_at hl 0 rfl) ?_
  refine lv_iload_n hx hb dX5_append_19 rfl (lv_at hl 3 rfl) ?_
  obtain ⟨h_2, hok⟩ := hok
  refine va_iast hx hb hK hP hD hS 9 0 rfl rfl h_2 dX5_append_20 (fun H locs hP hD hS => ?_)
  have hP : va_P (dC, dI) vwCl (cW cI cZ a (sA S 9 ((x1 * 16) + ((S.2 6) x1.toNatClampNeg)).toNatClampNeg x2)) H := hP
  have hD : va_D A (cW cI cZ a (sA S 9 ((x1 * 16) + ((S.2 6) x1.toNatClampNeg)).toNatClampNeg x2)) := hD
  exact w_X5_append_21 C0 hK hA Z (sA S 9 ((x1 * 16) + ((S.2 6) x1.toNatClampNeg)).toNatClampNeg x2) x1 x3 ((x1 * 16) + ((S.2 6) x1.toNatClampNeg)) hok hZ _ _ hP hD hS _ (lv_sub hl [1, 2, 4, 0] rfl)
set_option maxHeartbeats 4000000 in
set_option maxRecDepth 100000 in
theorem c_X5_append (l : Launch) (dC : Nat → ClassId) (dI : Nat → Nat → Nat) (cI cZ : ClassId) (a : Nat → Nat) (sz : Nat) (S : St) (x1 : Int32) (x2 : Int32) (x3 : Int32) (hok : ok_X5_append S x1 x2 x3) : Met l yX5_append wsX5_append rm_X5_append (va_Pc [.ref (a 3), .int x1, .int x2, .int x3] (cWP dC dI cI cZ a sz S)) (va_Qi (fun (r : Int32) (u : St) => (r, u) = rs_X5_append S x1 x2 x3) (cWB dC dI cI cZ a (va_A (cW cI cZ a S) sz)) (va_A (cW cI cZ a S) sz)) 0 0 (va_A (cW cI cZ a S) sz) := by
  refine Met.ofW (cc := cX5_append) (maxL := 5) (ret := (some .int)) (by decide) rfl ?_
  intro p e s m args below meth c s₁ B hml hv
  obtain ⟨rfl, hsz, hP, hK, hD0⟩ := hv
  subst hsz
  have hD := hD0.self (sz := s.heap.size)
  have hl := lv_entry ([.ref (a 3), .int x1, .int x2, .int x3]) (n := 5) (Nat.le_of_ble_eq_true rfl)
  rw [lg_entry_eq]
  generalize (lg_sl ([.ref (a 3), .int x1, .int x2, .int x3]) ++ List.replicate (5 - (lg_sl ([.ref (a 3), .int x1, .int x2, .int x3])).length) Slot.unset).toArray = ls at hl ⊢
  have hl : lv_has ls 5 [(0, .ref (a 3)), (1, .int x1), (2, .int x2), (3, .int x3)] := hl
  exact w_X5_append ⟨B.exec, B.bytes, B.returns, hml, findClass_of_methodNamed B.named, atoms_spec (ws := wsX5_append) B.pre, B.notSynchronized⟩ hK (fun q h => Or.inr h) _ S x1 x2 x3 hok rfl _ _ hP hD va_S.rf ls hl
abbrev rm_X5_answer : Room := { frames := 0, cells := 0, slots := 0, locals := 0 }
theorem iX5_answer_X5 : ∀ w ∈ wsX50, w ∈ wsX5_answer := by decide +kernel
def rs_X5_answer (S : St) (x1 : Int32) (x2 : Int32) : Int32 × St := (if x2 = 0 then (((S.2 4) x1.toNatClampNeg), S) else (if x2 = 1 then (if ((S.2 5) x1.toNatClampNeg) = 0 then (0, S) else (1, S)) else (if x2 = 2 then (((S.2 6) x1.toNatClampNeg), S) else (if x2 = 3 then (((S.2 7) x1.toNatClampNeg), S) else (((S.2 8) x1.toNatClampNeg), S)))))
def ok_X5_answer (S : St) (x1 : Int32) (x2 : Int32) : Prop := (if x2 = 0 then ((vp_in x1 12) ∧ True) else (if x2 = 1 then ((vp_in x1 12) ∧ (if ((S.2 5) x1.toNatClampNeg) = 0 then True else True)) else (if x2 = 2 then ((vp_in x1 12) ∧ True) else (if x2 = 3 then ((vp_in x1 12) ∧ True) else ((vp_in x1 12) ∧ True)))))
set_option maxHeartbeats 4000000 in
set_option maxRecDepth 100000 in
theorem w_X5_answer {p : Program} {l : Launch} {e : Env} {s : State} {m : MethodId} {args : Array Value} {below : List Frame} {meth : Method} {c : Code} {dC : Nat → ClassId} {dI : Nat → Nat → Nat} {cI cZ : ClassId} {a : Nat → Nat} {A : Nat → Prop} (C0 : Cx p s m args meth c RX5 cX5_answer (some .int) 3 wsX5_answer) (hK : va_K (dC, dI) vwCl (tI cI cZ) s) (hA : ∀ q, s.heap.size ≤ q → A q) (Z : Int32 × St) (S : St) (x1 : Int32) (x2 : Int32) (hok : ok_X5_answer S x1 x2) (hZ : rs_X5_answer S x1 x2 = Z) (H : Heap) (locs : List Loc) (hP : va_P (dC, dI) vwCl (cW cI cZ a S) H) (hD : va_D A (cW cI cZ a S)) (hS : va_S A s.heap H locs) (ls : Array Slot) (hl : lv_has ls 3 [(0, .ref (a 3)), (1, .int x1), (2, .int x2)]) : W p l e rm_X5_answer s m args below meth c H locs 0 0 (MQ below (va_Qi (fun (r : Int32) (u : St) => (r, u) = Z) (cWB dC dI cI cZ a A) A) args s 0 0 A) (F0 m 0 ls []) := by
  obtain ⟨hx, hb, hr, hml, hown, hts, hlocks⟩ := id C0
  rw [ok_X5_answer] at hok
  rw [rs_X5_answer] at hZ
  refine lv_iload_n hx hb dX5_answer_0 rfl (lv_at hl 2 rfl) ?_
  by_cases c_7_k0 : x2 = 0
  · have hok := okT hok c_7_k0
    have hZ := rsT hZ c_7_k0
    refine lv_tableIn (off := 31) (tgt := 32) hx hb dX5_answer_1 (by rw [c_7_k0]; decide) (by rw [c_7_k0]; decide) (by rw [c_7_k0]; rfl) (by decide) ?_
    refine lv_aload_n hx hb dX5_answer_32 rfl (lv_at hl 0 rfl) ?_
    refine va_get (D := (dC, dI)) (ci := 4) (v := .ref (a 4)) (C := RX5) (T := TX5) (N := 8) hx hb hts iX5_answer_X5 hown hK hP 3 rfl rfl 0 (by decide) (hts (.fieldLink RX5 9 "RiskHouse$Rules" "edition" "[I") (by decide +kernel)) (fun _ h9 => h9) rfl dX5_answer_33 ?_
    refine lv_iload_n hx hb dX5_answer_36 rfl (lv_at hl 1 rfl) ?_
    obtain ⟨h_1, hok⟩ := hok
    refine va_iald (f := (S.2 4)) hx hb hK hP 4 0 rfl rfl h_1 dX5_answer_37 ?_
    exact W.iret (v := ((S.2 4) x1.toNatClampNeg)) hx hb hr (fun t ht hW => ⟨⟨((S.2 4) x1.toNatClampNeg), S, rfl, hZ, by rw [ht]; exact hP, va_K.moved hW.alike hK, hD⟩, hS.F ht⟩) hS.2.2 dX5_answer_38 hlocks
  · have hok := okF hok c_7_k0
    have hZ := rsF hZ c_7_k0
    by_cases c_7_k1 : x2 = 1
    · have hok := okT hok c_7_k1
      have hZ := rsT hZ c_7_k1
      refine lv_tableIn (off := 38) (tgt := 39) hx hb dX5_answer_1 (by rw [c_7_k1]; decide) (by rw [c_7_k1]; decide) (by rw [c_7_k1]; rfl) (by decide) ?_
      refine lv_aload_n hx hb dX5_answer_39 rfl (lv_at hl 0 rfl) ?_
      refine va_get (D := (dC, dI)) (ci := 4) (v := .ref (a 5)) (C := RX5) (T := TX5) (N := 8) hx hb hts iX5_answer_X5 hown hK hP 3 rfl rfl 1 (by decide) (hts (.fieldLink RX5 13 "RiskHouse$Rules" "start" "[Z") (by decide +kernel)) (fun _ h9 => h9) rfl dX5_answer_40 ?_
      refine lv_iload_n hx hb dX5_answer_43 rfl (lv_at hl 1 rfl) ?_
      obtain ⟨h_2, hok⟩ := hok
      refine va_zald (f := (S.2 5)) hx hb hK hP 5 1 rfl rfl h_2 dX5_answer_44 ?_
      refine lv_if_eq (tgt := 52) hx hb dX5_answer_45 (by decide) (fun c_3 => ?_) (fun c_3 => ?_)
      · have hok := okT hok c_3
        have hZ := rsT hZ c_3
        refine lv_iconst (v := 0) hx hb dX5_answer_52 (by decide) ?_
        exact W.iret (v := 0) hx hb hr (fun t ht hW => ⟨⟨0, S, rfl, hZ, by rw [ht]; exact hP, va_K.moved hW.alike hK, hD⟩, hS.F ht⟩) hS.2.2 dX5_answer_53 hlocks
      · have hok := okF hok c_3
        have hZ := rsF hZ c_3
        refine lv_iconst (v := 1) hx hb dX5_answer_48 (by decide) ?_
        refine lv_goto (tgt := 53) hx hb dX5_answer_49 (by decide) ?_
        exact W.iret (v := 1) hx hb hr (fun t ht hW => ⟨⟨1, S, rfl, hZ, by rw [ht]; exact hP, va_K.moved hW.alike hK, hD⟩, hS.F ht⟩) hS.2.2 dX5_answer_53 hlocks
    · have hok := okF hok c_7_k1
      have hZ := rsF hZ c_7_k1
      by_cases c_7_k2 : x2 = 2
      · have hok := okT hok c_7_k2
        have hZ := rsT hZ c_7_k2
        refine lv_tableIn (off := 53) (tgt := 54) hx hb dX5_answer_1 (by rw [c_7_k2]; decide) (by rw [c_7_k2]; decide) (by rw [c_7_k2]; rfl) (by decide) ?_
        refine lv_aload_n hx hb dX5_answer_54 rfl (lv_at hl 0 rfl) ?_
        refine va_get (D := (dC, dI)) (ci := 4) (v := .ref (a 6)) (C := RX5) (T := TX5) (N := 8) hx hb hts iX5_answer_X5 hown hK hP 3 rfl rfl 2 (by decide) (hts (.fieldLink RX5 17 "RiskHouse$Rules" "length" "[I") (by decide +kernel)) (fun _ h9 => h9) rfl dX5_answer_55 ?_
        refine lv_iload_n hx hb dX5_answer_58 rfl (lv_at hl 1 rfl) ?_
        obtain ⟨h_4, hok⟩ := hok
        refine va_iald (f := (S.2 6)) hx hb hK hP 6 0 rfl rfl h_4 dX5_answer_59 ?_
        exact W.iret (v := ((S.2 6) x1.toNatClampNeg)) hx hb hr (fun t ht hW => ⟨⟨((S.2 6) x1.toNatClampNeg), S, rfl, hZ, by rw [ht]; exact hP, va_K.moved hW.alike hK, hD⟩, hS.F ht⟩) hS.2.2 dX5_answer_60 hlocks
      · have hok := okF hok c_7_k2
        have hZ := rsF hZ c_7_k2
        by_cases c_7_k3 : x2 = 3
        · have hok := okT hok c_7_k3
          have hZ := rsT hZ c_7_k3
          refine lv_tableIn (off := 60) (tgt := 61) hx hb dX5_answer_1 (by rw [c_7_k3]; decide) (by rw [c_7_k3]; decide) (by rw [c_7_k3]; rfl) (by decide) ?_
          refine lv_aload_n hx hb dX5_answer_61 rfl (lv_at hl 0 rfl) ?_
          refine va_get (D := (dC, dI)) (ci := 4) (v := .ref (a 7)) (C := RX5) (T := TX5) (N := 8) hx hb hts iX5_answer_X5 hown hK hP 3 rfl rfl 3 (by decide) (hts (.fieldLink RX5 20 "RiskHouse$Rules" "value" "[I") (by decide +kernel)) (fun _ h9 => h9) rfl dX5_answer_62 ?_
          refine lv_iload_n hx hb dX5_answer_65 rfl (lv_at hl 1 rfl) ?_
          obtain ⟨h_5, hok⟩ := hok
          refine va_iald (f := (S.2 7)) hx hb hK hP 7 0 rfl rfl h_5 dX5_answer_66 ?_
          exact W.iret (v := ((S.2 7) x1.toNatClampNeg)) hx hb hr (fun t ht hW => ⟨⟨((S.2 7) x1.toNatClampNeg), S, rfl, hZ, by rw [ht]; exact hP, va_K.moved hW.alike hK, hD⟩, hS.F ht⟩) hS.2.2 dX5_answer_67 hlocks
        · have hok := okF hok c_7_k3
          have hZ := rsF hZ c_7_k3
          refine lv_tableOut (tgt := 68) hx hb dX5_answer_1 (by have q0 := lv_neT (a := 0) c_7_k0 (by decide); have q1 := lv_neT (a := 1) c_7_k1 (by decide); have q2 := lv_neT (a := 2) c_7_k2 (by decide); have q3 := lv_neT (a := 3) c_7_k3 (by decide); omega) (by decide) ?_
          refine lv_aload_n hx hb dX5_answer_68 rfl (lv_at hl 0 rfl) ?_
          refine va_get (D := (dC, dI)) (ci := 4) (v := .ref (a 8)) (C := RX5) (T := TX5) (N := 8) hx hb hts iX5_answer_X5 hown hK hP 3 rfl rfl 4 (by decide) (hts (.fieldLink RX5 23 "RiskHouse$Rules" "steps" "[I") (by decide +kernel)) (fun _ h9 => h9) rfl dX5_answer_69 ?_
          refine lv_iload_n hx hb dX5_answer_72 rfl (lv_at hl 1 rfl) ?_
          obtain ⟨h_6, hok⟩ := hok
          refine va_iald (f := (S.2 8)) hx hb hK hP 8 0 rfl rfl h_6 dX5_answer_73 ?_
          exact W.iret (v := ((S.2 8) x1.toNatClampNeg)) hx hb hr (fun t ht hW => ⟨⟨((S.2 8) x1.toNatClampNeg), S, rfl, hZ, by rw [ht]; exact hP, va_K.moved hW.alike hK, hD⟩, hS.F ht⟩) hS.2.2 dX5_answer_74 hlocks
set_option maxHeartbeats 4000000 in
set_option maxRecDepth 100000 in
theorem c_X5_answer (l : Launch) (dC : Nat → ClassId) (dI : Nat → Nat → Nat) (cI cZ : ClassId) (a : Nat → Nat) (sz : Nat) (S : St) (x1 : Int32) (x2 : Int32) (hok : ok_X5_answer S x1 x2) : Met l yX5_answer wsX5_answer rm_X5_answer (va_Pc [.ref (a 3), .int x1, .int x2] (cWP dC dI cI cZ a sz S)) (va_Qi (fun (r : Int32) (u : St) => (r, u) = rs_X5_answer S x1 x2) (cWB dC dI cI cZ a (va_A (cW cI cZ a S) sz)) (va_A (cW cI cZ a S) sz)) 0 0 (va_A (cW cI cZ a S) sz) := by
  refine Met.ofW (cc := cX5_answer) (maxL := 3) (ret := (some .int)) (by decide) rfl ?_
  intro p e s m args below meth c s₁ B hml hv
  obtain ⟨rfl, hsz, hP, hK, hD0⟩ := hv
  subst hsz
  have hD := hD0.self (sz := s.heap.size)
  have hl := lv_entry ([.ref (a 3), .int x1, .int x2]) (n := 3) (Nat.le_of_ble_eq_true rfl)
  rw [lg_entry_eq]
  generalize (lg_sl ([.ref (a 3), .int x1, .int x2]) ++ List.replicate (3 - (lg_sl ([.ref (a 3), .int x1, .int x2])).length) Slot.unset).toArray = ls at hl ⊢
  have hl : lv_has ls 3 [(0, .ref (a 3)), (1, .int x1), (2, .int x2)] := hl
  exact w_X5_answer ⟨B.exec, B.bytes, B.returns, hml, findClass_of_methodNamed B.named, atoms_spec (ws := wsX5_answer) B.pre, B.notSynchronized⟩ hK (fun q h => Or.inr h) _ S x1 x2 hok rfl _ _ hP hD va_S.rf ls hl
abbrev rm_X6_append : Room := { frames := 0, cells := 0, slots := 0, locals := 0 }
theorem iX6_append_X6 : ∀ w ∈ wsX60, w ∈ wsX6_append := by decide +kernel
def rs_X6_append_20 (S : St)  : Int32 × St := (0, S)
def ok_X6_append_20 (S : St)  : Prop := True
set_option maxHeartbeats 4000000 in
set_option maxRecDepth 100000 in
theorem w_X6_append_20 {p : Program} {l : Launch} {e : Env} {s : State} {m : MethodId} {args : Array Value} {below : List Frame} {meth : Method} {c : Code} {dC : Nat → ClassId} {dI : Nat → Nat → Nat} {cI cZ : ClassId} {a : Nat → Nat} {A : Nat → Prop} (C0 : Cx p s m args meth c RX6 cX6_append (some .boolean) 2 wsX6_append) (hK : va_K (dC, dI) vwCl (tI cI cZ) s) (hA : ∀ q, s.heap.size ≤ q → A q) (Z : Int32 × St) (S : St)  (hok : ok_X6_append_20 S) (hZ : rs_X6_append_20 S = Z) (H : Heap) (locs : List Loc) (hP : va_P (dC, dI) vwCl (cW cI cZ a S) H) (hD : va_D A (cW cI cZ a S)) (hS : va_S A s.heap H locs) (ls : Array Slot) (hl : lv_has ls 2 []) : W p l e rm_X6_append s m args below meth c H locs 0 0 (MQ below (va_Qi (fun (r : Int32) (u : St) => (r, u) = Z) (cWB dC dI cI cZ a A) A) args s 0 0 A) (F0 m 20 ls []) := by
  obtain ⟨hx, hb, hr, hml, hown, hts, hlocks⟩ := id C0
  rw [ok_X6_append_20] at hok
  rw [rs_X6_append_20] at hZ
  refine lv_iconst (v := 0) hx hb dX6_append_20 (by decide) ?_
  exact W.zret (v := 0) hx hb hr rfl (fun t ht hW => ⟨⟨0, S, rfl, hZ, by rw [ht]; exact hP, va_K.moved hW.alike hK, hD⟩, hS.F ht⟩) hS.2.2 dX6_append_21 hlocks
def rs_X6_append_32 (S : St)  : Int32 × St := (1, (sI S 601 ((S.1 601) + 1)))
def ok_X6_append_32 (S : St)  : Prop := True
set_option maxHeartbeats 4000000 in
set_option maxRecDepth 100000 in
theorem w_X6_append_32 {p : Program} {l : Launch} {e : Env} {s : State} {m : MethodId} {args : Array Value} {below : List Frame} {meth : Method} {c : Code} {dC : Nat → ClassId} {dI : Nat → Nat → Nat} {cI cZ : ClassId} {a : Nat → Nat} {A : Nat → Prop} (C0 : Cx p s m args meth c RX6 cX6_append (some .boolean) 2 wsX6_append) (hK : va_K (dC, dI) vwCl (tI cI cZ) s) (hA : ∀ q, s.heap.size ≤ q → A q) (Z : Int32 × St) (S : St)  (hok : ok_X6_append_32 S) (hZ : rs_X6_append_32 S = Z) (H : Heap) (locs : List Loc) (hP : va_P (dC, dI) vwCl (cW cI cZ a S) H) (hD : va_D A (cW cI cZ a S)) (hS : va_S A s.heap H locs) (ls : Array Slot) (hl : lv_has ls 2 [(0, .ref (a 15))]) : W p l e rm_X6_append s m args below meth c H locs 0 0 (MQ below (va_Qi (fun (r : Int32) (u : St) => (r, u) = Z) (cWB dC dI cI cZ a A) A) args s 0 0 A) (F0 m 32 ls []) := by
  obtain ⟨hx, hb, hr, hml, hown, hts, hlocks⟩ := id C0
  rw [ok_X6_append_32] at hok
  rw [rs_X6_append_32] at hZ
  refine lv_aload_n hx hb dX6_append_32 rfl (lv_at hl 0 rfl) ?_
  refine lv_dup hx hb dX6_append_33 rfl ?_
  refine va_get (D := (dC, dI)) (ci := 5) (v := .int (S.1 601)) (C := RX6) (T := TX6) (N := 5) hx hb hts iX6_append_X6 hown hK hP 15 rfl rfl 1 (by decide) (hts (.fieldLink RX6 17 "RiskHouse$Tape" "came" "I") (by decide +kernel)) (fun _ h9 => h9) rfl dX6_append_34 ?_
  refine lv_iconst (v := 1) hx hb dX6_append_37 (by decide) ?_
  refine lv_iadd hx hb dX6_append_38 ?_
  refine va_put (D := (dC, dI)) (ci := 5) (v := .int ((S.1 601) + 1)) (ty := .int) (C := RX6) (T := TX6) (N := 5) hx hb hts iX6_append_X6 tyX6 tyX6_ok nmX6 hown hK hP hD hS 15 rfl rfl 1 (by decide) (hts (.fieldLink RX6 17 "RiskHouse$Tape" "came" "I") (by decide +kernel)) (fun _ h9 => h9) rfl (by decide +kernel) rfl rfl (Nat.le_of_ble_eq_true rfl) dX6_append_39 (fun H locs hP hD hS => ?_)
  have hP : va_P (dC, dI) vwCl (cW cI cZ a (sI S 601 ((S.1 601) + 1))) H := hP
  have hD : va_D A (cW cI cZ a (sI S 601 ((S.1 601) + 1))) := hD
  refine lv_iconst (v := 1) hx hb dX6_append_42 (by decide) ?_
  exact W.zret (v := 1) hx hb hr rfl (fun t ht hW => ⟨⟨1, (sI S 601 ((S.1 601) + 1)), rfl, hZ, by rw [ht]; exact hP, va_K.moved hW.alike hK, hD⟩, hS.F ht⟩) hS.2.2 dX6_append_43 hlocks
def rs_X6_append (S : St) (x1 : Int32) : Int32 × St := (if x1 < 0 then (rs_X6_append_20 S) else (if 1000 ≤ x1 then (rs_X6_append_20 S) else (if (S.1 601) < 60 then (rs_X6_append_32 (sA S 16 (S.1 601).toNatClampNeg x1)) else (rs_X6_append_20 S))))
def ok_X6_append (S : St) (x1 : Int32) : Prop := (if x1 < 0 then ok_X6_append_20 S else (if 1000 ≤ x1 then ok_X6_append_20 S else (if (S.1 601) < 60 then ((vp_in (S.1 601) 60) ∧ ok_X6_append_32 (sA S 16 (S.1 601).toNatClampNeg x1)) else ok_X6_append_20 S)))
set_option maxHeartbeats 4000000 in
set_option maxRecDepth 100000 in
theorem w_X6_append {p : Program} {l : Launch} {e : Env} {s : State} {m : MethodId} {args : Array Value} {below : List Frame} {meth : Method} {c : Code} {dC : Nat → ClassId} {dI : Nat → Nat → Nat} {cI cZ : ClassId} {a : Nat → Nat} {A : Nat → Prop} (C0 : Cx p s m args meth c RX6 cX6_append (some .boolean) 2 wsX6_append) (hK : va_K (dC, dI) vwCl (tI cI cZ) s) (hA : ∀ q, s.heap.size ≤ q → A q) (Z : Int32 × St) (S : St) (x1 : Int32) (hok : ok_X6_append S x1) (hZ : rs_X6_append S x1 = Z) (H : Heap) (locs : List Loc) (hP : va_P (dC, dI) vwCl (cW cI cZ a S) H) (hD : va_D A (cW cI cZ a S)) (hS : va_S A s.heap H locs) (ls : Array Slot) (hl : lv_has ls 2 [(0, .ref (a 15)), (1, .int x1)]) : W p l e rm_X6_append s m args below meth c H locs 0 0 (MQ below (va_Qi (fun (r : Int32) (u : St) => (r, u) = Z) (cWB dC dI cI cZ a A) A) args s 0 0 A) (F0 m 0 ls []) := by
  obtain ⟨hx, hb, hr, hml, hown, hts, hlocks⟩ := id C0
  rw [ok_X6_append] at hok
  rw [rs_X6_append] at hZ
  refine lv_iload_n hx hb dX6_append_0 rfl (lv_at hl 1 rfl) ?_
  refine lv_if_lt (tgt := 20) hx hb dX6_append_1 (by decide) (fun c_1 => ?_) (fun c_1 => ?_)
  · have hok := okT hok c_1
    have hZ := rsT hZ c_1
    exact w_X6_append_20 C0 hK hA Z S hok hZ _ _ hP hD hS _ (lv_sub hl [] rfl)
  · have hok := okF hok c_1
    have hZ := rsF hZ c_1
    refine lv_iload_n hx hb dX6_append_4 rfl (lv_at hl 1 rfl) ?_
    refine lv_sipush (v := 1000) hx hb dX6_append_5 (by decide) ?_
    refine lv_icmp_ge (tgt := 20) hx hb dX6_append_8 (by decide) (fun c_2 => ?_) (fun c_2 => ?_)
    · have hok := okT hok c_2
      have hZ := rsT hZ c_2
      exact w_X6_append_20 C0 hK hA Z S hok hZ _ _ hP hD hS _ (lv_sub hl [] rfl)
    · have hok := okF hok c_2
      have hZ := rsF hZ c_2
      refine lv_aload_n hx hb dX6_append_11 rfl (lv_at hl 0 rfl) ?_
      refine va_get (D := (dC, dI)) (ci := 5) (v := .int (S.1 601)) (C := RX6) (T := TX6) (N := 5) hx hb hts iX6_append_X6 hown hK hP 15 rfl rfl 1 (by decide) (hts (.fieldLink RX6 17 "RiskHouse$Tape" "came" "I") (by decide +kernel)) (fun _ h9 => h9) rfl dX6_append_12 ?_
      refine lv_bipush (v := 60) hx hb dX6_append_15 (by decide) ?_
      refine lv_icmp_lt (tgt := 22) hx hb dX6_append_17 (by decide) (fun c_3 => ?_) (fun c_3 => ?_)
      · have hok := okT hok c_3
        have hZ := rsT hZ c_3
        refine lv_aload_n hx hb dX6_append_22 rfl (lv_at hl 0 rfl) ?_
        refine va_get (D := (dC, dI)) (ci := 5) (v := .ref (a 16)) (C := RX6) (T := TX6) (N := 5) hx hb hts iX6_append_X6 hown hK hP 15 rfl rfl 0 (by decide) (hts (.fieldLink RX6 9 "RiskHouse$Tape" "numbers" "[I") (by decide +kernel)) (fun _ h9 => h9) rfl dX6_append_23 ?_
        refine lv_aload_n hx hb dX6_append_26 rfl (lv_at hl 0 rfl) ?_
        refine va_get (D := (dC, dI)) (ci := 5) (v := .int (S.1 601)) (C := RX6) (T := TX6) (N := 5) hx hb hts iX6_append_X6 hown hK hP 15 rfl rfl 1 (by decide) (hts (.fieldLink RX6 17 "RiskHouse$Tape" "came" "I") (by decide +kernel)) (fun _ h9 => h9) rfl dX6_append_27 ?_
        refine lv_iload_n hx hb dX6_append_30 rfl (lv_at hl 1 rfl) ?_
        obtain ⟨h_4, hok⟩ := hok
        refine va_iast hx hb hK hP hD hS 16 0 rfl rfl h_4 dX6_append_31 (fun H locs hP hD hS => ?_)
        have hP : va_P (dC, dI) vwCl (cW cI cZ a (sA S 16 (S.1 601).toNatClampNeg x1)) H := hP
        have hD : va_D A (cW cI cZ a (sA S 16 (S.1 601).toNatClampNeg x1)) := hD
        exact w_X6_append_32 C0 hK hA Z (sA S 16 (S.1 601).toNatClampNeg x1) hok hZ _ _ hP hD hS _ (lv_sub hl [0] rfl)
      · have hok := okF hok c_3
        have hZ := rsF hZ c_3
        exact w_X6_append_20 C0 hK hA Z S hok hZ _ _ hP hD hS _ (lv_sub hl [] rfl)
set_option maxHeartbeats 4000000 in
set_option maxRecDepth 100000 in
theorem c_X6_append (l : Launch) (dC : Nat → ClassId) (dI : Nat → Nat → Nat) (cI cZ : ClassId) (a : Nat → Nat) (sz : Nat) (S : St) (x1 : Int32) (hok : ok_X6_append S x1) : Met l yX6_append wsX6_append rm_X6_append (va_Pc [.ref (a 15), .int x1] (cWP dC dI cI cZ a sz S)) (va_Qi (fun (r : Int32) (u : St) => (r, u) = rs_X6_append S x1) (cWB dC dI cI cZ a (va_A (cW cI cZ a S) sz)) (va_A (cW cI cZ a S) sz)) 0 0 (va_A (cW cI cZ a S) sz) := by
  refine Met.ofW (cc := cX6_append) (maxL := 2) (ret := (some .boolean)) (by decide) rfl ?_
  intro p e s m args below meth c s₁ B hml hv
  obtain ⟨rfl, hsz, hP, hK, hD0⟩ := hv
  subst hsz
  have hD := hD0.self (sz := s.heap.size)
  have hl := lv_entry ([.ref (a 15), .int x1]) (n := 2) (Nat.le_of_ble_eq_true rfl)
  rw [lg_entry_eq]
  generalize (lg_sl ([.ref (a 15), .int x1]) ++ List.replicate (2 - (lg_sl ([.ref (a 15), .int x1])).length) Slot.unset).toArray = ls at hl ⊢
  have hl : lv_has ls 2 [(0, .ref (a 15)), (1, .int x1)] := hl
  exact w_X6_append ⟨B.exec, B.bytes, B.returns, hml, findClass_of_methodNamed B.named, atoms_spec (ws := wsX6_append) B.pre, B.notSynchronized⟩ hK (fun q h => Or.inr h) _ S x1 hok rfl _ _ hP hD va_S.rf ls hl
abbrev rm_X6_setShare : Room := { frames := 0, cells := 0, slots := 0, locals := 0 }
theorem iX6_setShare_X6 : ∀ w ∈ wsX60, w ∈ wsX6_setShare := by decide +kernel
def rs_X6_setShare_21 (S : St)  : Int32 × St := (0, S)
def ok_X6_setShare_21 (S : St)  : Prop := True
set_option maxHeartbeats 4000000 in
set_option maxRecDepth 100000 in
theorem w_X6_setShare_21 {p : Program} {l : Launch} {e : Env} {s : State} {m : MethodId} {args : Array Value} {below : List Frame} {meth : Method} {c : Code} {dC : Nat → ClassId} {dI : Nat → Nat → Nat} {cI cZ : ClassId} {a : Nat → Nat} {A : Nat → Prop} (C0 : Cx p s m args meth c RX6 cX6_setShare (some .boolean) 3 wsX6_setShare) (hK : va_K (dC, dI) vwCl (tI cI cZ) s) (hA : ∀ q, s.heap.size ≤ q → A q) (Z : Int32 × St) (S : St)  (hok : ok_X6_setShare_21 S) (hZ : rs_X6_setShare_21 S = Z) (H : Heap) (locs : List Loc) (hP : va_P (dC, dI) vwCl (cW cI cZ a S) H) (hD : va_D A (cW cI cZ a S)) (hS : va_S A s.heap H locs) (ls : Array Slot) (hl : lv_has ls 3 []) : W p l e rm_X6_setShare s m args below meth c H locs 0 0 (MQ below (va_Qi (fun (r : Int32) (u : St) => (r, u) = Z) (cWB dC dI cI cZ a A) A) args s 0 0 A) (F0 m 21 ls []) := by
  obtain ⟨hx, hb, hr, hml, hown, hts, hlocks⟩ := id C0
  rw [ok_X6_setShare_21] at hok
  rw [rs_X6_setShare_21] at hZ
  refine lv_iconst (v := 0) hx hb dX6_setShare_21 (by decide) ?_
  exact W.zret (v := 0) hx hb hr rfl (fun t ht hW => ⟨⟨0, S, rfl, hZ, by rw [ht]; exact hP, va_K.moved hW.alike hK, hD⟩, hS.F ht⟩) hS.2.2 dX6_setShare_22 hlocks
def rs_X6_setShare_28 (S : St) (x2 : Int32) : Int32 × St := (1, (sI S 604 x2))
def ok_X6_setShare_28 (S : St) (x2 : Int32) : Prop := True
set_option maxHeartbeats 4000000 in
set_option maxRecDepth 100000 in
theorem w_X6_setShare_28 {p : Program} {l : Launch} {e : Env} {s : State} {m : MethodId} {args : Array Value} {below : List Frame} {meth : Method} {c : Code} {dC : Nat → ClassId} {dI : Nat → Nat → Nat} {cI cZ : ClassId} {a : Nat → Nat} {A : Nat → Prop} (C0 : Cx p s m args meth c RX6 cX6_setShare (some .boolean) 3 wsX6_setShare) (hK : va_K (dC, dI) vwCl (tI cI cZ) s) (hA : ∀ q, s.heap.size ≤ q → A q) (Z : Int32 × St) (S : St) (x2 : Int32) (hok : ok_X6_setShare_28 S x2) (hZ : rs_X6_setShare_28 S x2 = Z) (H : Heap) (locs : List Loc) (hP : va_P (dC, dI) vwCl (cW cI cZ a S) H) (hD : va_D A (cW cI cZ a S)) (hS : va_S A s.heap H locs) (ls : Array Slot) (hl : lv_has ls 3 [(0, .ref (a 15)), (2, .int x2)]) : W p l e rm_X6_setShare s m args below meth c H locs 0 0 (MQ below (va_Qi (fun (r : Int32) (u : St) => (r, u) = Z) (cWB dC dI cI cZ a A) A) args s 0 0 A) (F0 m 28 ls []) := by
  obtain ⟨hx, hb, hr, hml, hown, hts, hlocks⟩ := id C0
  rw [ok_X6_setShare_28] at hok
  rw [rs_X6_setShare_28] at hZ
  refine lv_aload_n hx hb dX6_setShare_28 rfl (lv_at hl 0 rfl) ?_
  refine lv_iload_n hx hb dX6_setShare_29 rfl (lv_at hl 1 rfl) ?_
  refine va_put (D := (dC, dI)) (ci := 5) (v := .int x2) (ty := .int) (C := RX6) (T := TX6) (N := 5) hx hb hts iX6_setShare_X6 tyX6 tyX6_ok nmX6 hown hK hP hD hS 15 rfl rfl 4 (by decide) (hts (.fieldLink RX6 13 "RiskHouse$Tape" "down" "I") (by decide +kernel)) (fun _ h9 => h9) rfl (by decide +kernel) rfl rfl (Nat.le_of_ble_eq_true rfl) dX6_setShare_30 (fun H locs hP hD hS => ?_)
  have hP : va_P (dC, dI) vwCl (cW cI cZ a (sI S 604 x2)) H := hP
  have hD : va_D A (cW cI cZ a (sI S 604 x2)) := hD
  refine lv_iconst (v := 1) hx hb dX6_setShare_33 (by decide) ?_
  exact W.zret (v := 1) hx hb hr rfl (fun t ht hW => ⟨⟨1, (sI S 604 x2), rfl, hZ, by rw [ht]; exact hP, va_K.moved hW.alike hK, hD⟩, hS.F ht⟩) hS.2.2 dX6_setShare_34 hlocks
def rs_X6_setShare (S : St) (x1 : Int32) (x2 : Int32) : Int32 × St := (if x2 < 1 then (rs_X6_setShare_21 S) else (if 1000 < x2 then (rs_X6_setShare_21 S) else (if x1 < 0 then (rs_X6_setShare_21 S) else (if x1 ≤ x2 then (rs_X6_setShare_28 (sI S 603 x1) x2) else (rs_X6_setShare_21 S)))))
def ok_X6_setShare (S : St) (x1 : Int32) (x2 : Int32) : Prop := (if x2 < 1 then ok_X6_setShare_21 S else (if 1000 < x2 then ok_X6_setShare_21 S else (if x1 < 0 then ok_X6_setShare_21 S else (if x1 ≤ x2 then ok_X6_setShare_28 (sI S 603 x1) x2 else ok_X6_setShare_21 S))))
set_option maxHeartbeats 4000000 in
set_option maxRecDepth 100000 in
theorem w_X6_setShare {p : Program} {l : Launch} {e : Env} {s : State} {m : MethodId} {args : Array Value} {below : List Frame} {meth : Method} {c : Code} {dC : Nat → ClassId} {dI : Nat → Nat → Nat} {cI cZ : ClassId} {a : Nat → Nat} {A : Nat → Prop} (C0 : Cx p s m args meth c RX6 cX6_setShare (some .boolean) 3 wsX6_setShare) (hK : va_K (dC, dI) vwCl (tI cI cZ) s) (hA : ∀ q, s.heap.size ≤ q → A q) (Z : Int32 × St) (S : St) (x1 : Int32) (x2 : Int32) (hok : ok_X6_setShare S x1 x2) (hZ : rs_X6_setShare S x1 x2 = Z) (H : Heap) (locs : List Loc) (hP : va_P (dC, dI) vwCl (cW cI cZ a S) H) (hD : va_D A (cW cI cZ a S)) (hS : va_S A s.heap H locs) (ls : Array Slot) (hl : lv_has ls 3 [(0, .ref (a 15)), (1, .int x1), (2, .int x2)]) : W p l e rm_X6_setShare s m args below meth c H locs 0 0 (MQ below (va_Qi (fun (r : Int32) (u : St) => (r, u) = Z) (cWB dC dI cI cZ a A) A) args s 0 0 A) (F0 m 0 ls []) := by
  obtain ⟨hx, hb, hr, hml, hown, hts, hlocks⟩ := id C0
  rw [ok_X6_setShare] at hok
  rw [rs_X6_setShare] at hZ
  refine lv_iload_n hx hb dX6_setShare_0 rfl (lv_at hl 2 rfl) ?_
  refine lv_iconst (v := 1) hx hb dX6_setShare_1 (by decide) ?_
  refine lv_icmp_lt (tgt := 21) hx hb dX6_setShare_2 (by decide) (fun c_1 => ?_) (fun c_1 => ?_)
  · have hok := okT hok c_1
    have hZ := rsT hZ c_1
    exact w_X6_setShare_21 C0 hK hA Z S hok hZ _ _ hP hD hS _ (lv_sub hl [] rfl)
  · have hok := okF hok c_1
    have hZ := rsF hZ c_1
    refine lv_iload_n hx hb dX6_setShare_5 rfl (lv_at hl 2 rfl) ?_
    refine lv_sipush (v := 1000) hx hb dX6_setShare_6 (by decide) ?_
    refine lv_icmp_gt (tgt := 21) hx hb dX6_setShare_9 (by decide) (fun c_2 => ?_) (fun c_2 => ?_)
    · have hok := okT hok c_2
      have hZ := rsT hZ c_2
      exact w_X6_setShare_21 C0 hK hA Z S hok hZ _ _ hP hD hS _ (lv_sub hl [] rfl)
    · have hok := okF hok c_2
      have hZ := rsF hZ c_2
      refine lv_iload_n hx hb dX6_setShare_12 rfl (lv_at hl 1 rfl) ?_
      refine lv_if_lt (tgt := 21) hx hb dX6_setShare_13 (by decide) (fun c_3 => ?_) (fun c_3 => ?_)
      · have hok := okT hok c_3
        have hZ := rsT hZ c_3
        exact w_X6_setShare_21 C0 hK hA Z S hok hZ _ _ hP hD hS _ (lv_sub hl [] rfl)
      · have hok := okF hok c_3
        have hZ := rsF hZ c_3
        refine lv_iload_n hx hb dX6_setShare_16 rfl (lv_at hl 1 rfl) ?_
        refine lv_iload_n hx hb dX6_setShare_17 rfl (lv_at hl 2 rfl) ?_
        refine lv_icmp_le (tgt := 23) hx hb dX6_setShare_18 (by decide) (fun c_4 => ?_) (fun c_4 => ?_)
        · have hok := okT hok c_4
          have hZ := rsT hZ c_4
          refine lv_aload_n hx hb dX6_setShare_23 rfl (lv_at hl 0 rfl) ?_
          refine lv_iload_n hx hb dX6_setShare_24 rfl (lv_at hl 1 rfl) ?_
          refine va_put (D := (dC, dI)) (ci := 5) (v := .int x1) (ty := .int) (C := RX6) (T := TX6) (N := 5) hx hb hts iX6_setShare_X6 tyX6 tyX6_ok nmX6 hown hK hP hD hS 15 rfl rfl 3 (by decide) (hts (.fieldLink RX6 20 "RiskHouse$Tape" "up" "I") (by decide +kernel)) (fun _ h9 => h9) rfl (by decide +kernel) rfl rfl (Nat.le_of_ble_eq_true rfl) dX6_setShare_25 (fun H locs hP hD hS => ?_)
          have hP : va_P (dC, dI) vwCl (cW cI cZ a (sI S 603 x1)) H := hP
          have hD : va_D A (cW cI cZ a (sI S 603 x1)) := hD
          exact w_X6_setShare_28 C0 hK hA Z (sI S 603 x1) x2 hok hZ _ _ hP hD hS _ (lv_sub hl [0, 2] rfl)
        · have hok := okF hok c_4
          have hZ := rsF hZ c_4
          exact w_X6_setShare_21 C0 hK hA Z S hok hZ _ _ hP hD hS _ (lv_sub hl [] rfl)
set_option maxHeartbeats 4000000 in
set_option maxRecDepth 100000 in
theorem c_X6_setShare (l : Launch) (dC : Nat → ClassId) (dI : Nat → Nat → Nat) (cI cZ : ClassId) (a : Nat → Nat) (sz : Nat) (S : St) (x1 : Int32) (x2 : Int32) (hok : ok_X6_setShare S x1 x2) : Met l yX6_setShare wsX6_setShare rm_X6_setShare (va_Pc [.ref (a 15), .int x1, .int x2] (cWP dC dI cI cZ a sz S)) (va_Qi (fun (r : Int32) (u : St) => (r, u) = rs_X6_setShare S x1 x2) (cWB dC dI cI cZ a (va_A (cW cI cZ a S) sz)) (va_A (cW cI cZ a S) sz)) 0 0 (va_A (cW cI cZ a S) sz) := by
  refine Met.ofW (cc := cX6_setShare) (maxL := 3) (ret := (some .boolean)) (by decide) rfl ?_
  intro p e s m args below meth c s₁ B hml hv
  obtain ⟨rfl, hsz, hP, hK, hD0⟩ := hv
  subst hsz
  have hD := hD0.self (sz := s.heap.size)
  have hl := lv_entry ([.ref (a 15), .int x1, .int x2]) (n := 3) (Nat.le_of_ble_eq_true rfl)
  rw [lg_entry_eq]
  generalize (lg_sl ([.ref (a 15), .int x1, .int x2]) ++ List.replicate (3 - (lg_sl ([.ref (a 15), .int x1, .int x2])).length) Slot.unset).toArray = ls at hl ⊢
  have hl : lv_has ls 3 [(0, .ref (a 15)), (1, .int x1), (2, .int x2)] := hl
  exact w_X6_setShare ⟨B.exec, B.bytes, B.returns, hml, findClass_of_methodNamed B.named, atoms_spec (ws := wsX6_setShare) B.pre, B.notSynchronized⟩ hK (fun q h => Or.inr h) _ S x1 x2 hok rfl _ _ hP hD va_S.rf ls hl
abbrev rm_X6_left : Room := { frames := 0, cells := 0, slots := 0, locals := 0 }
theorem iX6_left_X6 : ∀ w ∈ wsX60, w ∈ wsX6_left := by decide +kernel
def rs_X6_left (S : St)  : Int32 × St := (((S.1 601) - (S.1 602)), S)
def ok_X6_left (S : St)  : Prop := True
set_option maxHeartbeats 4000000 in
set_option maxRecDepth 100000 in
theorem w_X6_left {p : Program} {l : Launch} {e : Env} {s : State} {m : MethodId} {args : Array Value} {below : List Frame} {meth : Method} {c : Code} {dC : Nat → ClassId} {dI : Nat → Nat → Nat} {cI cZ : ClassId} {a : Nat → Nat} {A : Nat → Prop} (C0 : Cx p s m args meth c RX6 cX6_left (some .int) 1 wsX6_left) (hK : va_K (dC, dI) vwCl (tI cI cZ) s) (hA : ∀ q, s.heap.size ≤ q → A q) (Z : Int32 × St) (S : St)  (hok : ok_X6_left S) (hZ : rs_X6_left S = Z) (H : Heap) (locs : List Loc) (hP : va_P (dC, dI) vwCl (cW cI cZ a S) H) (hD : va_D A (cW cI cZ a S)) (hS : va_S A s.heap H locs) (ls : Array Slot) (hl : lv_has ls 1 [(0, .ref (a 15))]) : W p l e rm_X6_left s m args below meth c H locs 0 0 (MQ below (va_Qi (fun (r : Int32) (u : St) => (r, u) = Z) (cWB dC dI cI cZ a A) A) args s 0 0 A) (F0 m 0 ls []) := by
  obtain ⟨hx, hb, hr, hml, hown, hts, hlocks⟩ := id C0
  rw [ok_X6_left] at hok
  rw [rs_X6_left] at hZ
  refine lv_aload_n hx hb dX6_left_0 rfl (lv_at hl 0 rfl) ?_
  refine va_get (D := (dC, dI)) (ci := 5) (v := .int (S.1 601)) (C := RX6) (T := TX6) (N := 5) hx hb hts iX6_left_X6 hown hK hP 15 rfl rfl 1 (by decide) (hts (.fieldLink RX6 17 "RiskHouse$Tape" "came" "I") (by decide +kernel)) (fun _ h9 => h9) rfl dX6_left_1 ?_
  refine lv_aload_n hx hb dX6_left_4 rfl (lv_at hl 0 rfl) ?_
  refine va_get (D := (dC, dI)) (ci := 5) (v := .int (S.1 602)) (C := RX6) (T := TX6) (N := 5) hx hb hts iX6_left_X6 hown hK hP 15 rfl rfl 2 (by decide) (hts (.fieldLink RX6 23 "RiskHouse$Tape" "taken" "I") (by decide +kernel)) (fun _ h9 => h9) rfl dX6_left_5 ?_
  refine lv_isub hx hb dX6_left_8 ?_
  exact W.iret (v := ((S.1 601) - (S.1 602))) hx hb hr (fun t ht hW => ⟨⟨((S.1 601) - (S.1 602)), S, rfl, hZ, by rw [ht]; exact hP, va_K.moved hW.alike hK, hD⟩, hS.F ht⟩) hS.2.2 dX6_left_9 hlocks
set_option maxHeartbeats 4000000 in
set_option maxRecDepth 100000 in
theorem c_X6_left (l : Launch) (dC : Nat → ClassId) (dI : Nat → Nat → Nat) (cI cZ : ClassId) (a : Nat → Nat) (sz : Nat) (S : St)  (hok : ok_X6_left S) : Met l yX6_left wsX6_left rm_X6_left (va_Pc [.ref (a 15)] (cWP dC dI cI cZ a sz S)) (va_Qi (fun (r : Int32) (u : St) => (r, u) = rs_X6_left S) (cWB dC dI cI cZ a (va_A (cW cI cZ a S) sz)) (va_A (cW cI cZ a S) sz)) 0 0 (va_A (cW cI cZ a S) sz) := by
  refine Met.ofW (cc := cX6_left) (maxL := 1) (ret := (some .int)) (by decide) rfl ?_
  intro p e s m args below meth c s₁ B hml hv
  obtain ⟨rfl, hsz, hP, hK, hD0⟩ := hv
  subst hsz
  have hD := hD0.self (sz := s.heap.size)
  have hl := lv_entry ([.ref (a 15)]) (n := 1) (Nat.le_of_ble_eq_true rfl)
  rw [lg_entry_eq]
  generalize (lg_sl ([.ref (a 15)]) ++ List.replicate (1 - (lg_sl ([.ref (a 15)])).length) Slot.unset).toArray = ls at hl ⊢
  have hl : lv_has ls 1 [(0, .ref (a 15))] := hl
  exact w_X6_left ⟨B.exec, B.bytes, B.returns, hml, findClass_of_methodNamed B.named, atoms_spec (ws := wsX6_left) B.pre, B.notSynchronized⟩ hK (fun q h => Or.inr h) _ S hok rfl _ _ hP hD va_S.rf ls hl
abbrev rm_X6_grantsNext : Room := { frames := 0, cells := 0, slots := 0, locals := 0 }
theorem iX6_grantsNext_X6 : ∀ w ∈ wsX60, w ∈ wsX6_grantsNext := by decide +kernel
def rs_X6_grantsNext (S : St)  : Int32 × St := (if (S.1 602) < (S.1 601) then (if ((S.1 603) * 1000) ≤ (((S.2 16) (S.1 602).toNatClampNeg) * (S.1 604)) then (0, (sI S 602 ((S.1 602) + 1))) else (1, (sI S 602 ((S.1 602) + 1)))) else (0, S))
def ok_X6_grantsNext (S : St)  : Prop := (if (S.1 602) < (S.1 601) then ((vp_in (S.1 602) 60) ∧ (if ((S.1 603) * 1000) ≤ (((S.2 16) (S.1 602).toNatClampNeg) * (S.1 604)) then True else True)) else True)
set_option maxHeartbeats 4000000 in
set_option maxRecDepth 100000 in
theorem w_X6_grantsNext {p : Program} {l : Launch} {e : Env} {s : State} {m : MethodId} {args : Array Value} {below : List Frame} {meth : Method} {c : Code} {dC : Nat → ClassId} {dI : Nat → Nat → Nat} {cI cZ : ClassId} {a : Nat → Nat} {A : Nat → Prop} (C0 : Cx p s m args meth c RX6 cX6_grantsNext (some .boolean) 2 wsX6_grantsNext) (hK : va_K (dC, dI) vwCl (tI cI cZ) s) (hA : ∀ q, s.heap.size ≤ q → A q) (Z : Int32 × St) (S : St)  (hok : ok_X6_grantsNext S) (hZ : rs_X6_grantsNext S = Z) (H : Heap) (locs : List Loc) (hP : va_P (dC, dI) vwCl (cW cI cZ a S) H) (hD : va_D A (cW cI cZ a S)) (hS : va_S A s.heap H locs) (ls : Array Slot) (hl : lv_has ls 2 [(0, .ref (a 15))]) : W p l e rm_X6_grantsNext s m args below meth c H locs 0 0 (MQ below (va_Qi (fun (r : Int32) (u : St) => (r, u) = Z) (cWB dC dI cI cZ a A) A) args s 0 0 A) (F0 m 0 ls []) := by
  obtain ⟨hx, hb, hr, hml, hown, hts, hlocks⟩ := id C0
  rw [ok_X6_grantsNext] at hok
  rw [rs_X6_grantsNext] at hZ
  refine lv_aload_n hx hb dX6_grantsNext_0 rfl (lv_at hl 0 rfl) ?_
  refine va_get (D := (dC, dI)) (ci := 5) (v := .int (S.1 602)) (C := RX6) (T := TX6) (N := 5) hx hb hts iX6_grantsNext_X6 hown hK hP 15 rfl rfl 2 (by decide) (hts (.fieldLink RX6 23 "RiskHouse$Tape" "taken" "I") (by decide +kernel)) (fun _ h9 => h9) rfl dX6_grantsNext_1 ?_
  refine lv_aload_n hx hb dX6_grantsNext_4 rfl (lv_at hl 0 rfl) ?_
  refine va_get (D := (dC, dI)) (ci := 5) (v := .int (S.1 601)) (C := RX6) (T := TX6) (N := 5) hx hb hts iX6_grantsNext_X6 hown hK hP 15 rfl rfl 1 (by decide) (hts (.fieldLink RX6 17 "RiskHouse$Tape" "came" "I") (by decide +kernel)) (fun _ h9 => h9) rfl dX6_grantsNext_5 ?_
  refine lv_icmp_lt (tgt := 13) hx hb dX6_grantsNext_8 (by decide) (fun c_1 => ?_) (fun c_1 => ?_)
  · have hok := okT hok c_1
    have hZ := rsT hZ c_1
    refine lv_aload_n hx hb dX6_grantsNext_13 rfl (lv_at hl 0 rfl) ?_
    refine va_get (D := (dC, dI)) (ci := 5) (v := .ref (a 16)) (C := RX6) (T := TX6) (N := 5) hx hb hts iX6_grantsNext_X6 hown hK hP 15 rfl rfl 0 (by decide) (hts (.fieldLink RX6 9 "RiskHouse$Tape" "numbers" "[I") (by decide +kernel)) (fun _ h9 => h9) rfl dX6_grantsNext_14 ?_
    refine lv_aload_n hx hb dX6_grantsNext_17 rfl (lv_at hl 0 rfl) ?_
    refine va_get (D := (dC, dI)) (ci := 5) (v := .int (S.1 602)) (C := RX6) (T := TX6) (N := 5) hx hb hts iX6_grantsNext_X6 hown hK hP 15 rfl rfl 2 (by decide) (hts (.fieldLink RX6 23 "RiskHouse$Tape" "taken" "I") (by decide +kernel)) (fun _ h9 => h9) rfl dX6_grantsNext_18 ?_
    obtain ⟨h_2, hok⟩ := hok
    refine va_iald (f := (S.2 16)) hx hb hK hP 16 0 rfl rfl h_2 dX6_grantsNext_21 ?_
    refine lv_istore_n (lv' := [(1, .int ((S.2 16) (S.1 602).toNatClampNeg)), (0, .ref (a 15))]) hx hb dX6_grantsNext_22 rfl hl (by decide) rfl (fun ls hl => ?_)
    refine lv_aload_n hx hb dX6_grantsNext_23 rfl (lv_at hl 1 rfl) ?_
    refine lv_dup hx hb dX6_grantsNext_24 rfl ?_
    refine va_get (D := (dC, dI)) (ci := 5) (v := .int (S.1 602)) (C := RX6) (T := TX6) (N := 5) hx hb hts iX6_grantsNext_X6 hown hK hP 15 rfl rfl 2 (by decide) (hts (.fieldLink RX6 23 "RiskHouse$Tape" "taken" "I") (by decide +kernel)) (fun _ h9 => h9) rfl dX6_grantsNext_25 ?_
    refine lv_iconst (v := 1) hx hb dX6_grantsNext_28 (by decide) ?_
    refine lv_iadd hx hb dX6_grantsNext_29 ?_
    refine va_put (D := (dC, dI)) (ci := 5) (v := .int ((S.1 602) + 1)) (ty := .int) (C := RX6) (T := TX6) (N := 5) hx hb hts iX6_grantsNext_X6 tyX6 tyX6_ok nmX6 hown hK hP hD hS 15 rfl rfl 2 (by decide) (hts (.fieldLink RX6 23 "RiskHouse$Tape" "taken" "I") (by decide +kernel)) (fun _ h9 => h9) rfl (by decide +kernel) rfl rfl (Nat.le_of_ble_eq_true rfl) dX6_grantsNext_30 (fun H locs hP hD hS => ?_)
    have hP : va_P (dC, dI) vwCl (cW cI cZ a (sI S 602 ((S.1 602) + 1))) H := hP
    have hD : va_D A (cW cI cZ a (sI S 602 ((S.1 602) + 1))) := hD
    refine lv_iload_n hx hb dX6_grantsNext_33 rfl (lv_at hl 0 rfl) ?_
    refine lv_aload_n hx hb dX6_grantsNext_34 rfl (lv_at hl 1 rfl) ?_
    refine va_get (D := (dC, dI)) (ci := 5) (v := .int (S.1 604)) (C := RX6) (T := TX6) (N := 5) hx hb hts iX6_grantsNext_X6 hown hK hP 15 rfl rfl 4 (by decide) (hts (.fieldLink RX6 13 "RiskHouse$Tape" "down" "I") (by decide +kernel)) (fun _ h9 => h9) rfl dX6_grantsNext_35 ?_
    refine lv_imul hx hb dX6_grantsNext_38 ?_
    refine lv_aload_n hx hb dX6_grantsNext_39 rfl (lv_at hl 1 rfl) ?_
    refine va_get (D := (dC, dI)) (ci := 5) (v := .int (S.1 603)) (C := RX6) (T := TX6) (N := 5) hx hb hts iX6_grantsNext_X6 hown hK hP 15 rfl rfl 3 (by decide) (hts (.fieldLink RX6 20 "RiskHouse$Tape" "up" "I") (by decide +kernel)) (fun _ h9 => h9) rfl dX6_grantsNext_40 ?_
    refine lv_sipush (v := 1000) hx hb dX6_grantsNext_43 (by decide) ?_
    refine lv_imul hx hb dX6_grantsNext_46 ?_
    refine lv_icmp_ge (tgt := 54) hx hb dX6_grantsNext_47 (by decide) (fun c_3 => ?_) (fun c_3 => ?_)
    · have hok := okT hok c_3
      have hZ := rsT hZ c_3
      refine lv_iconst (v := 0) hx hb dX6_grantsNext_54 (by decide) ?_
      exact W.zret (v := 0) hx hb hr rfl (fun t ht hW => ⟨⟨0, (sI S 602 ((S.1 602) + 1)), rfl, hZ, by rw [ht]; exact hP, va_K.moved hW.alike hK, hD⟩, hS.F ht⟩) hS.2.2 dX6_grantsNext_55 hlocks
    · have hok := okF hok c_3
      have hZ := rsF hZ c_3
      refine lv_iconst (v := 1) hx hb dX6_grantsNext_50 (by decide) ?_
      refine lv_goto (tgt := 55) hx hb dX6_grantsNext_51 (by decide) ?_
      exact W.zret (v := 1) hx hb hr rfl (fun t ht hW => ⟨⟨1, (sI S 602 ((S.1 602) + 1)), rfl, hZ, by rw [ht]; exact hP, va_K.moved hW.alike hK, hD⟩, hS.F ht⟩) hS.2.2 dX6_grantsNext_55 hlocks
  · have hok := okF hok c_1
    have hZ := rsF hZ c_1
    refine lv_iconst (v := 0) hx hb dX6_grantsNext_11 (by decide) ?_
    exact W.zret (v := 0) hx hb hr rfl (fun t ht hW => ⟨⟨0, S, rfl, hZ, by rw [ht]; exact hP, va_K.moved hW.alike hK, hD⟩, hS.F ht⟩) hS.2.2 dX6_grantsNext_12 hlocks
set_option maxHeartbeats 4000000 in
set_option maxRecDepth 100000 in
theorem c_X6_grantsNext (l : Launch) (dC : Nat → ClassId) (dI : Nat → Nat → Nat) (cI cZ : ClassId) (a : Nat → Nat) (sz : Nat) (S : St)  (hok : ok_X6_grantsNext S) : Met l yX6_grantsNext wsX6_grantsNext rm_X6_grantsNext (va_Pc [.ref (a 15)] (cWP dC dI cI cZ a sz S)) (va_Qi (fun (r : Int32) (u : St) => (r, u) = rs_X6_grantsNext S) (cWB dC dI cI cZ a (va_A (cW cI cZ a S) sz)) (va_A (cW cI cZ a S) sz)) 0 0 (va_A (cW cI cZ a S) sz) := by
  refine Met.ofW (cc := cX6_grantsNext) (maxL := 2) (ret := (some .boolean)) (by decide) rfl ?_
  intro p e s m args below meth c s₁ B hml hv
  obtain ⟨rfl, hsz, hP, hK, hD0⟩ := hv
  subst hsz
  have hD := hD0.self (sz := s.heap.size)
  have hl := lv_entry ([.ref (a 15)]) (n := 2) (Nat.le_of_ble_eq_true rfl)
  rw [lg_entry_eq]
  generalize (lg_sl ([.ref (a 15)]) ++ List.replicate (2 - (lg_sl ([.ref (a 15)])).length) Slot.unset).toArray = ls at hl ⊢
  have hl : lv_has ls 2 [(0, .ref (a 15))] := hl
  exact w_X6_grantsNext ⟨B.exec, B.bytes, B.returns, hml, findClass_of_methodNamed B.named, atoms_spec (ws := wsX6_grantsNext) B.pre, B.notSynchronized⟩ hK (fun q h => Or.inr h) _ S hok rfl _ _ hP hD va_S.rf ls hl
