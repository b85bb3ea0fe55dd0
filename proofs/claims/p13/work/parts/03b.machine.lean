abbrev rm_X4_top : Room := { frames := 0, cells := 0, slots := 0, locals := 0 }
theorem iX4_top_X4 : ∀ w ∈ wsX40, w ∈ wsX4_top := by decide +kernel
def rs_X4_top (S : St)  : Int32 × St := (if (S.1 1042) ≤ 0 then (0, S) else (((S.2 27) ((S.1 1042) - 1).toNatClampNeg), S))
def ok_X4_top (S : St)  : Prop := (if (S.1 1042) ≤ 0 then True else ((vp_in ((S.1 1042) - 1) 8) ∧ True))
set_option maxHeartbeats 4000000 in
set_option maxRecDepth 100000 in
theorem w_X4_top {p : Program} {l : Launch} {e : Env} {s : State} {m : MethodId} {args : Array Value} {below : List Frame} {meth : Method} {c : Code} {dC : Nat → ClassId} {dI : Nat → Nat → Nat} {cI cZ : ClassId} {a : Nat → Nat} {A : Nat → Prop} (C0 : Cx p s m args meth c RX4 cX4_top (some .int) 1 wsX4_top) (hK : va_K (dC, dI) vwCl (tI cI cZ) s) (hA : ∀ q, s.heap.size ≤ q → A q) (Z : Int32 × St) (S : St)  (hok : ok_X4_top S) (hZ : rs_X4_top S = Z) (H : Heap) (locs : List Loc) (hP : va_P (dC, dI) vwCl (cW cI cZ a S) H) (hD : va_D A (cW cI cZ a S)) (hS : va_S A s.heap H locs) (ls : Array Slot) (hl : lv_has ls 1 [(0, .ref (a 26))]) : W p l e rm_X4_top s m args below meth c H locs 0 0 (MQ below (va_Qi (fun (r : Int32) (u : St) => (r, u) = Z) (cWB dC dI cI cZ a A) A) args s 0 0 A) (F0 m 0 ls []) := by
  obtain ⟨hx, hb, hr, hml, hown, hts, hlocks⟩ := id C0
  rw [ok_X4_top] at hok
  rw [rs_X4_top] at hZ
  refine lv_aload_n hx hb dX4_top_0 rfl (lv_at hl 0 rfl) ?_
  refine va_get (D := (dC, dI)) (ci := 3) (v := .int (S.1 1042)) (C := RX4) (T := TX4) (N := 6) hx hb hts iX4_top_X4 hown hK hP 26 rfl rfl 2 (by decide) (hts (.fieldLink RX4 47 "RiskHouse$Machine" "depth" "I") (by decide +kernel)) (fun _ h9 => h9) rfl dX4_top_1 ?_
  refine lv_if_le (tgt := 21) hx hb dX4_top_4 (by decide) (fun c_1 => ?_) (fun c_1 => ?_)
  · have hok := okT hok c_1
    have hZ := rsT hZ c_1
    refine lv_iconst (v := 0) hx hb dX4_top_21 (by decide) ?_
    exact W.iret (v := 0) hx hb hr (fun t ht hW => ⟨⟨0, S, rfl, hZ, by rw [ht]; exact hP, va_K.moved hW.alike hK, hD⟩, hS.F ht⟩) hS.2.2 dX4_top_22 hlocks
  · have hok := okF hok c_1
    have hZ := rsF hZ c_1
    refine lv_aload_n hx hb dX4_top_7 rfl (lv_at hl 0 rfl) ?_
    refine va_get (D := (dC, dI)) (ci := 3) (v := .ref (a 27)) (C := RX4) (T := TX4) (N := 6) hx hb hts iX4_top_X4 hown hK hP 26 rfl rfl 1 (by decide) (hts (.fieldLink RX4 9 "RiskHouse$Machine" "stack" "[I") (by decide +kernel)) (fun _ h9 => h9) rfl dX4_top_8 ?_
    refine lv_aload_n hx hb dX4_top_11 rfl (lv_at hl 0 rfl) ?_
    refine va_get (D := (dC, dI)) (ci := 3) (v := .int (S.1 1042)) (C := RX4) (T := TX4) (N := 6) hx hb hts iX4_top_X4 hown hK hP 26 rfl rfl 2 (by decide) (hts (.fieldLink RX4 47 "RiskHouse$Machine" "depth" "I") (by decide +kernel)) (fun _ h9 => h9) rfl dX4_top_12 ?_
    refine lv_iconst (v := 1) hx hb dX4_top_15 (by decide) ?_
    refine lv_isub hx hb dX4_top_16 ?_
    obtain ⟨h_2, hok⟩ := hok
    refine va_iald (f := (S.2 27)) hx hb hK hP 27 0 rfl rfl h_2 dX4_top_17 ?_
    refine lv_goto (tgt := 22) hx hb dX4_top_18 (by decide) ?_
    exact W.iret (v := ((S.2 27) ((S.1 1042) - 1).toNatClampNeg)) hx hb hr (fun t ht hW => ⟨⟨((S.2 27) ((S.1 1042) - 1).toNatClampNeg), S, rfl, hZ, by rw [ht]; exact hP, va_K.moved hW.alike hK, hD⟩, hS.F ht⟩) hS.2.2 dX4_top_22 hlocks
set_option maxHeartbeats 4000000 in
set_option maxRecDepth 100000 in
theorem c_X4_top (l : Launch) (dC : Nat → ClassId) (dI : Nat → Nat → Nat) (cI cZ : ClassId) (a : Nat → Nat) (sz : Nat) (S : St)  (hok : ok_X4_top S) : Met l yX4_top wsX4_top rm_X4_top (va_Pc [.ref (a 26)] (cWP dC dI cI cZ a sz S)) (va_Qi (fun (r : Int32) (u : St) => (r, u) = rs_X4_top S) (cWB dC dI cI cZ a (va_A (cW cI cZ a S) sz)) (va_A (cW cI cZ a S) sz)) 0 0 (va_A (cW cI cZ a S) sz) := by
  refine Met.ofW (cc := cX4_top) (maxL := 1) (ret := (some .int)) (by decide) rfl ?_
  intro p e s m args below meth c s₁ B hml hv
  obtain ⟨rfl, hsz, hP, hK, hD0⟩ := hv
  subst hsz
  have hD := hD0.self (sz := s.heap.size)
  have hl := lv_entry ([.ref (a 26)]) (n := 1) (Nat.le_of_ble_eq_true rfl)
  rw [lg_entry_eq]
  generalize (lg_sl ([.ref (a 26)]) ++ List.replicate (1 - (lg_sl ([.ref (a 26)])).length) Slot.unset).toArray = ls at hl ⊢
  have hl : lv_has ls 1 [(0, .ref (a 26))] := hl
  exact w_X4_top ⟨B.exec, B.bytes, B.returns, hml, findClass_of_methodNamed B.named, atoms_spec (ws := wsX4_top) B.pre, B.notSynchronized⟩ hK (fun q h => Or.inr h) _ S hok rfl _ _ hP hD va_S.rf ls hl
abbrev rm_X4_begin : Room := { frames := 0, cells := 0, slots := 0, locals := 0 }
theorem iX4_begin_X4 : ∀ w ∈ wsX40, w ∈ wsX4_begin := by decide +kernel
def rs_X4_begin_15 (S : St)  : St := (sI S 1045 0)
def ok_X4_begin_15 (S : St)  : Prop := True
set_option maxHeartbeats 4000000 in
set_option maxRecDepth 100000 in
theorem w_X4_begin_15 {p : Program} {l : Launch} {e : Env} {s : State} {m : MethodId} {args : Array Value} {below : List Frame} {meth : Method} {c : Code} {dC : Nat → ClassId} {dI : Nat → Nat → Nat} {cI cZ : ClassId} {a : Nat → Nat} {A : Nat → Prop} (C0 : Cx p s m args meth c RX4 cX4_begin none 1 wsX4_begin) (hK : va_K (dC, dI) vwCl (tI cI cZ) s) (hA : ∀ q, s.heap.size ≤ q → A q) (Z : St) (S : St)  (hok : ok_X4_begin_15 S) (hZ : rs_X4_begin_15 S = Z) (H : Heap) (locs : List Loc) (hP : va_P (dC, dI) vwCl (cW cI cZ a S) H) (hD : va_D A (cW cI cZ a S)) (hS : va_S A s.heap H locs) (ls : Array Slot) (hl : lv_has ls 1 [(0, .ref (a 26))]) : W p l e rm_X4_begin s m args below meth c H locs 0 0 (MQ below (va_Qv (fun u : St => u = Z) (cWB dC dI cI cZ a A) A) args s 0 0 A) (F0 m 15 ls []) := by
  obtain ⟨hx, hb, hr, hml, hown, hts, hlocks⟩ := id C0
  rw [ok_X4_begin_15] at hok
  rw [rs_X4_begin_15] at hZ
  refine lv_aload_n hx hb dX4_begin_15 rfl (lv_at hl 0 rfl) ?_
  refine lv_iconst (v := 0) hx hb dX4_begin_16 (by decide) ?_
  refine va_put (D := (dC, dI)) (ci := 3) (v := .int 0) (ty := .int) (C := RX4) (T := TX4) (N := 6) hx hb hts iX4_begin_X4 tyX4 tyX4_ok nmX4 hown hK hP hD hS 26 rfl rfl 5 (by decide) (hts (.fieldLink RX4 31 "RiskHouse$Machine" "failure" "I") (by decide +kernel)) (fun _ h9 => h9) rfl (by decide +kernel) rfl rfl (Nat.le_of_ble_eq_true rfl) dX4_begin_17 (fun H locs hP hD hS => ?_)
  have hP : va_P (dC, dI) vwCl (cW cI cZ a (sI S 1045 0)) H := hP
  have hD : va_D A (cW cI cZ a (sI S 1045 0)) := hD
  exact W.vret hx hb hr (fun t ht hW => ⟨⟨(sI S 1045 0), rfl, hZ, by rw [ht]; exact hP, va_K.moved hW.alike hK, hD⟩, hS.F ht⟩) hS.2.2 dX4_begin_20 hlocks
def rs_X4_begin_10 (S : St)  : St := (rs_X4_begin_15 (sI S 1044 0))
def ok_X4_begin_10 (S : St)  : Prop := ok_X4_begin_15 (sI S 1044 0)
set_option maxHeartbeats 4000000 in
set_option maxRecDepth 100000 in
theorem w_X4_begin_10 {p : Program} {l : Launch} {e : Env} {s : State} {m : MethodId} {args : Array Value} {below : List Frame} {meth : Method} {c : Code} {dC : Nat → ClassId} {dI : Nat → Nat → Nat} {cI cZ : ClassId} {a : Nat → Nat} {A : Nat → Prop} (C0 : Cx p s m args meth c RX4 cX4_begin none 1 wsX4_begin) (hK : va_K (dC, dI) vwCl (tI cI cZ) s) (hA : ∀ q, s.heap.size ≤ q → A q) (Z : St) (S : St)  (hok : ok_X4_begin_10 S) (hZ : rs_X4_begin_10 S = Z) (H : Heap) (locs : List Loc) (hP : va_P (dC, dI) vwCl (cW cI cZ a S) H) (hD : va_D A (cW cI cZ a S)) (hS : va_S A s.heap H locs) (ls : Array Slot) (hl : lv_has ls 1 [(0, .ref (a 26))]) : W p l e rm_X4_begin s m args below meth c H locs 0 0 (MQ below (va_Qv (fun u : St => u = Z) (cWB dC dI cI cZ a A) A) args s 0 0 A) (F0 m 10 ls []) := by
  obtain ⟨hx, hb, hr, hml, hown, hts, hlocks⟩ := id C0
  rw [ok_X4_begin_10] at hok
  rw [rs_X4_begin_10] at hZ
  refine lv_aload_n hx hb dX4_begin_10 rfl (lv_at hl 0 rfl) ?_
  refine lv_iconst (v := 0) hx hb dX4_begin_11 (by decide) ?_
  refine va_put (D := (dC, dI)) (ci := 3) (v := .int 0) (ty := .int) (C := RX4) (T := TX4) (N := 6) hx hb hts iX4_begin_X4 tyX4 tyX4_ok nmX4 hown hK hP hD hS 26 rfl rfl 4 (by decide) (hts (.fieldLink RX4 34 "RiskHouse$Machine" "steps" "I") (by decide +kernel)) (fun _ h9 => h9) rfl (by decide +kernel) rfl rfl (Nat.le_of_ble_eq_true rfl) dX4_begin_12 (fun H locs hP hD hS => ?_)
  have hP : va_P (dC, dI) vwCl (cW cI cZ a (sI S 1044 0)) H := hP
  have hD : va_D A (cW cI cZ a (sI S 1044 0)) := hD
  exact w_X4_begin_15 C0 hK hA Z (sI S 1044 0) hok hZ _ _ hP hD hS _ (lv_sub hl [0] rfl)
def rs_X4_begin_5 (S : St)  : St := (rs_X4_begin_10 (sI S 1043 0))
def ok_X4_begin_5 (S : St)  : Prop := ok_X4_begin_10 (sI S 1043 0)
set_option maxHeartbeats 4000000 in
set_option maxRecDepth 100000 in
theorem w_X4_begin_5 {p : Program} {l : Launch} {e : Env} {s : State} {m : MethodId} {args : Array Value} {below : List Frame} {meth : Method} {c : Code} {dC : Nat → ClassId} {dI : Nat → Nat → Nat} {cI cZ : ClassId} {a : Nat → Nat} {A : Nat → Prop} (C0 : Cx p s m args meth c RX4 cX4_begin none 1 wsX4_begin) (hK : va_K (dC, dI) vwCl (tI cI cZ) s) (hA : ∀ q, s.heap.size ≤ q → A q) (Z : St) (S : St)  (hok : ok_X4_begin_5 S) (hZ : rs_X4_begin_5 S = Z) (H : Heap) (locs : List Loc) (hP : va_P (dC, dI) vwCl (cW cI cZ a S) H) (hD : va_D A (cW cI cZ a S)) (hS : va_S A s.heap H locs) (ls : Array Slot) (hl : lv_has ls 1 [(0, .ref (a 26))]) : W p l e rm_X4_begin s m args below meth c H locs 0 0 (MQ below (va_Qv (fun u : St => u = Z) (cWB dC dI cI cZ a A) A) args s 0 0 A) (F0 m 5 ls []) := by
  obtain ⟨hx, hb, hr, hml, hown, hts, hlocks⟩ := id C0
  rw [ok_X4_begin_5] at hok
  rw [rs_X4_begin_5] at hZ
  refine lv_aload_n hx hb dX4_begin_5 rfl (lv_at hl 0 rfl) ?_
  refine lv_iconst (v := 0) hx hb dX4_begin_6 (by decide) ?_
  refine va_put (D := (dC, dI)) (ci := 3) (v := .int 0) (ty := .int) (C := RX4) (T := TX4) (N := 6) hx hb hts iX4_begin_X4 tyX4 tyX4_ok nmX4 hown hK hP hD hS 26 rfl rfl 3 (by decide) (hts (.fieldLink RX4 28 "RiskHouse$Machine" "at" "I") (by decide +kernel)) (fun _ h9 => h9) rfl (by decide +kernel) rfl rfl (Nat.le_of_ble_eq_true rfl) dX4_begin_7 (fun H locs hP hD hS => ?_)
  have hP : va_P (dC, dI) vwCl (cW cI cZ a (sI S 1043 0)) H := hP
  have hD : va_D A (cW cI cZ a (sI S 1043 0)) := hD
  exact w_X4_begin_10 C0 hK hA Z (sI S 1043 0) hok hZ _ _ hP hD hS _ (lv_sub hl [0] rfl)
def rs_X4_begin (S : St)  : St := (rs_X4_begin_5 (sI S 1042 0))
def ok_X4_begin (S : St)  : Prop := ok_X4_begin_5 (sI S 1042 0)
set_option maxHeartbeats 4000000 in
set_option maxRecDepth 100000 in
theorem w_X4_begin {p : Program} {l : Launch} {e : Env} {s : State} {m : MethodId} {args : Array Value} {below : List Frame} {meth : Method} {c : Code} {dC : Nat → ClassId} {dI : Nat → Nat → Nat} {cI cZ : ClassId} {a : Nat → Nat} {A : Nat → Prop} (C0 : Cx p s m args meth c RX4 cX4_begin none 1 wsX4_begin) (hK : va_K (dC, dI) vwCl (tI cI cZ) s) (hA : ∀ q, s.heap.size ≤ q → A q) (Z : St) (S : St)  (hok : ok_X4_begin S) (hZ : rs_X4_begin S = Z) (H : Heap) (locs : List Loc) (hP : va_P (dC, dI) vwCl (cW cI cZ a S) H) (hD : va_D A (cW cI cZ a S)) (hS : va_S A s.heap H locs) (ls : Array Slot) (hl : lv_has ls 1 [(0, .ref (a 26))]) : W p l e rm_X4_begin s m args below meth c H locs 0 0 (MQ below (va_Qv (fun u : St => u = Z) (cWB dC dI cI cZ a A) A) args s 0 0 A) (F0 m 0 ls []) := by
  obtain ⟨hx, hb, hr, hml, hown, hts, hlocks⟩ := id C0
  rw [ok_X4_begin] at hok
  rw [rs_X4_begin] at hZ
  refine lv_aload_n hx hb dX4_begin_0 rfl (lv_at hl 0 rfl) ?_
  refine lv_iconst (v := 0) hx hb dX4_begin_1 (by decide) ?_
  refine va_put (D := (dC, dI)) (ci := 3) (v := .int 0) (ty := .int) (C := RX4) (T := TX4) (N := 6) hx hb hts iX4_begin_X4 tyX4 tyX4_ok nmX4 hown hK hP hD hS 26 rfl rfl 2 (by decide) (hts (.fieldLink RX4 47 "RiskHouse$Machine" "depth" "I") (by decide +kernel)) (fun _ h9 => h9) rfl (by decide +kernel) rfl rfl (Nat.le_of_ble_eq_true rfl) dX4_begin_2 (fun H locs hP hD hS => ?_)
  have hP : va_P (dC, dI) vwCl (cW cI cZ a (sI S 1042 0)) H := hP
  have hD : va_D A (cW cI cZ a (sI S 1042 0)) := hD
  exact w_X4_begin_5 C0 hK hA Z (sI S 1042 0) hok hZ _ _ hP hD hS _ (lv_sub hl [0] rfl)
set_option maxHeartbeats 4000000 in
set_option maxRecDepth 100000 in
theorem c_X4_begin (l : Launch) (dC : Nat → ClassId) (dI : Nat → Nat → Nat) (cI cZ : ClassId) (a : Nat → Nat) (sz : Nat) (S : St)  (hok : ok_X4_begin S) : Met l yX4_begin wsX4_begin rm_X4_begin (va_Pc [.ref (a 26)] (cWP dC dI cI cZ a sz S)) (va_Qv (fun u : St => u = rs_X4_begin S) (cWB dC dI cI cZ a (va_A (cW cI cZ a S) sz)) (va_A (cW cI cZ a S) sz)) 0 0 (va_A (cW cI cZ a S) sz) := by
  refine Met.ofW (cc := cX4_begin) (maxL := 1) (ret := none) (by decide) rfl ?_
  intro p e s m args below meth c s₁ B hml hv
  obtain ⟨rfl, hsz, hP, hK, hD0⟩ := hv
  subst hsz
  have hD := hD0.self (sz := s.heap.size)
  have hl := lv_entry ([.ref (a 26)]) (n := 1) (Nat.le_of_ble_eq_true rfl)
  rw [lg_entry_eq]
  generalize (lg_sl ([.ref (a 26)]) ++ List.replicate (1 - (lg_sl ([.ref (a 26)])).length) Slot.unset).toArray = ls at hl ⊢
  have hl : lv_has ls 1 [(0, .ref (a 26))] := hl
  exact w_X4_begin ⟨B.exec, B.bytes, B.returns, hml, findClass_of_methodNamed B.named, atoms_spec (ws := wsX4_begin) B.pre, B.notSynchronized⟩ hK (fun q h => Or.inr h) _ S hok rfl _ _ hP hD va_S.rf ls hl
abbrev rm_X4_canTake : Room := { frames := 0, cells := 0, slots := 0, locals := 0 }
theorem iX4_canTake_X4 : ∀ w ∈ wsX40, w ∈ wsX4_canTake := by decide +kernel
def rs_X4_canTake (S : St) (x1 : Int32) : Int32 × St := (if x1 ≤ (S.1 1042) then (1, S) else (0, (sI S 1045 3)))
def ok_X4_canTake (S : St) (x1 : Int32) : Prop := (if x1 ≤ (S.1 1042) then True else True)
set_option maxHeartbeats 4000000 in
set_option maxRecDepth 100000 in
theorem w_X4_canTake {p : Program} {l : Launch} {e : Env} {s : State} {m : MethodId} {args : Array Value} {below : List Frame} {meth : Method} {c : Code} {dC : Nat → ClassId} {dI : Nat → Nat → Nat} {cI cZ : ClassId} {a : Nat → Nat} {A : Nat → Prop} (C0 : Cx p s m args meth c RX4 cX4_canTake (some .boolean) 2 wsX4_canTake) (hK : va_K (dC, dI) vwCl (tI cI cZ) s) (hA : ∀ q, s.heap.size ≤ q → A q) (Z : Int32 × St) (S : St) (x1 : Int32) (hok : ok_X4_canTake S x1) (hZ : rs_X4_canTake S x1 = Z) (H : Heap) (locs : List Loc) (hP : va_P (dC, dI) vwCl (cW cI cZ a S) H) (hD : va_D A (cW cI cZ a S)) (hS : va_S A s.heap H locs) (ls : Array Slot) (hl : lv_has ls 2 [(0, .ref (a 26)), (1, .int x1)]) : W p l e rm_X4_canTake s m args below meth c H locs 0 0 (MQ below (va_Qi (fun (r : Int32) (u : St) => (r, u) = Z) (cWB dC dI cI cZ a A) A) args s 0 0 A) (F0 m 0 ls []) := by
  obtain ⟨hx, hb, hr, hml, hown, hts, hlocks⟩ := id C0
  rw [ok_X4_canTake] at hok
  rw [rs_X4_canTake] at hZ
  refine lv_aload_n hx hb dX4_canTake_0 rfl (lv_at hl 0 rfl) ?_
  refine va_get (D := (dC, dI)) (ci := 3) (v := .int (S.1 1042)) (C := RX4) (T := TX4) (N := 6) hx hb hts iX4_canTake_X4 hown hK hP 26 rfl rfl 2 (by decide) (hts (.fieldLink RX4 47 "RiskHouse$Machine" "depth" "I") (by decide +kernel)) (fun _ h9 => h9) rfl dX4_canTake_1 ?_
  refine lv_iload_n hx hb dX4_canTake_4 rfl (lv_at hl 1 rfl) ?_
  refine lv_icmp_ge (tgt := 15) hx hb dX4_canTake_5 (by decide) (fun c_1 => ?_) (fun c_1 => ?_)
  · have hok := okT hok c_1
    have hZ := rsT hZ c_1
    refine lv_iconst (v := 1) hx hb dX4_canTake_15 (by decide) ?_
    exact W.zret (v := 1) hx hb hr rfl (fun t ht hW => ⟨⟨1, S, rfl, hZ, by rw [ht]; exact hP, va_K.moved hW.alike hK, hD⟩, hS.F ht⟩) hS.2.2 dX4_canTake_16 hlocks
  · have hok := okF hok c_1
    have hZ := rsF hZ c_1
    refine lv_aload_n hx hb dX4_canTake_8 rfl (lv_at hl 0 rfl) ?_
    refine lv_iconst (v := 3) hx hb dX4_canTake_9 (by decide) ?_
    refine va_put (D := (dC, dI)) (ci := 3) (v := .int 3) (ty := .int) (C := RX4) (T := TX4) (N := 6) hx hb hts iX4_canTake_X4 tyX4 tyX4_ok nmX4 hown hK hP hD hS 26 rfl rfl 5 (by decide) (hts (.fieldLink RX4 31 "RiskHouse$Machine" "failure" "I") (by decide +kernel)) (fun _ h9 => h9) rfl (by decide +kernel) rfl rfl (Nat.le_of_ble_eq_true rfl) dX4_canTake_10 (fun H locs hP hD hS => ?_)
    have hP : va_P (dC, dI) vwCl (cW cI cZ a (sI S 1045 3)) H := hP
    have hD : va_D A (cW cI cZ a (sI S 1045 3)) := hD
    refine lv_iconst (v := 0) hx hb dX4_canTake_13 (by decide) ?_
    exact W.zret (v := 0) hx hb hr rfl (fun t ht hW => ⟨⟨0, (sI S 1045 3), rfl, hZ, by rw [ht]; exact hP, va_K.moved hW.alike hK, hD⟩, hS.F ht⟩) hS.2.2 dX4_canTake_14 hlocks
set_option maxHeartbeats 4000000 in
set_option maxRecDepth 100000 in
theorem c_X4_canTake (l : Launch) (dC : Nat → ClassId) (dI : Nat → Nat → Nat) (cI cZ : ClassId) (a : Nat → Nat) (sz : Nat) (S : St) (x1 : Int32) (hok : ok_X4_canTake S x1) : Met l yX4_canTake wsX4_canTake rm_X4_canTake (va_Pc [.ref (a 26), .int x1] (cWP dC dI cI cZ a sz S)) (va_Qi (fun (r : Int32) (u : St) => (r, u) = rs_X4_canTake S x1) (cWB dC dI cI cZ a (va_A (cW cI cZ a S) sz)) (va_A (cW cI cZ a S) sz)) 0 0 (va_A (cW cI cZ a S) sz) := by
  refine Met.ofW (cc := cX4_canTake) (maxL := 2) (ret := (some .boolean)) (by decide) rfl ?_
  intro p e s m args below meth c s₁ B hml hv
  obtain ⟨rfl, hsz, hP, hK, hD0⟩ := hv
  subst hsz
  have hD := hD0.self (sz := s.heap.size)
  have hl := lv_entry ([.ref (a 26), .int x1]) (n := 2) (Nat.le_of_ble_eq_true rfl)
  rw [lg_entry_eq]
  generalize (lg_sl ([.ref (a 26), .int x1]) ++ List.replicate (2 - (lg_sl ([.ref (a 26), .int x1])).length) Slot.unset).toArray = ls at hl ⊢
  have hl : lv_has ls 2 [(0, .ref (a 26)), (1, .int x1)] := hl
  exact w_X4_canTake ⟨B.exec, B.bytes, B.returns, hml, findClass_of_methodNamed B.named, atoms_spec (ws := wsX4_canTake) B.pre, B.notSynchronized⟩ hK (fun q h => Or.inr h) _ S x1 hok rfl _ _ hP hD va_S.rf ls hl
abbrev rm_X4_put : Room := { frames := 0, cells := 0, slots := 0, locals := 0 }
theorem iX4_put_X4 : ∀ w ∈ wsX40, w ∈ wsX4_put := by decide +kernel
def rs_X4_put_35 (S : St)  : St := (sI S 1043 ((S.1 1043) + 1))
def ok_X4_put_35 (S : St)  : Prop := True
set_option maxHeartbeats 4000000 in
set_option maxRecDepth 100000 in
theorem w_X4_put_35 {p : Program} {l : Launch} {e : Env} {s : State} {m : MethodId} {args : Array Value} {below : List Frame} {meth : Method} {c : Code} {dC : Nat → ClassId} {dI : Nat → Nat → Nat} {cI cZ : ClassId} {a : Nat → Nat} {A : Nat → Prop} (C0 : Cx p s m args meth c RX4 cX4_put none 2 wsX4_put) (hK : va_K (dC, dI) vwCl (tI cI cZ) s) (hA : ∀ q, s.heap.size ≤ q → A q) (Z : St) (S : St)  (hok : ok_X4_put_35 S) (hZ : rs_X4_put_35 S = Z) (H : Heap) (locs : List Loc) (hP : va_P (dC, dI) vwCl (cW cI cZ a S) H) (hD : va_D A (cW cI cZ a S)) (hS : va_S A s.heap H locs) (ls : Array Slot) (hl : lv_has ls 2 [(0, .ref (a 26))]) : W p l e rm_X4_put s m args below meth c H locs 0 0 (MQ below (va_Qv (fun u : St => u = Z) (cWB dC dI cI cZ a A) A) args s 0 0 A) (F0 m 35 ls []) := by
  obtain ⟨hx, hb, hr, hml, hown, hts, hlocks⟩ := id C0
  rw [ok_X4_put_35] at hok
  rw [rs_X4_put_35] at hZ
  refine lv_aload_n hx hb dX4_put_35 rfl (lv_at hl 0 rfl) ?_
  refine lv_dup hx hb dX4_put_36 rfl ?_
  refine va_get (D := (dC, dI)) (ci := 3) (v := .int (S.1 1043)) (C := RX4) (T := TX4) (N := 6) hx hb hts iX4_put_X4 hown hK hP 26 rfl rfl 3 (by decide) (hts (.fieldLink RX4 28 "RiskHouse$Machine" "at" "I") (by decide +kernel)) (fun _ h9 => h9) rfl dX4_put_37 ?_
  refine lv_iconst (v := 1) hx hb dX4_put_40 (by decide) ?_
  refine lv_iadd hx hb dX4_put_41 ?_
  refine va_put (D := (dC, dI)) (ci := 3) (v := .int ((S.1 1043) + 1)) (ty := .int) (C := RX4) (T := TX4) (N := 6) hx hb hts iX4_put_X4 tyX4 tyX4_ok nmX4 hown hK hP hD hS 26 rfl rfl 3 (by decide) (hts (.fieldLink RX4 28 "RiskHouse$Machine" "at" "I") (by decide +kernel)) (fun _ h9 => h9) rfl (by decide +kernel) rfl rfl (Nat.le_of_ble_eq_true rfl) dX4_put_42 (fun H locs hP hD hS => ?_)
  have hP : va_P (dC, dI) vwCl (cW cI cZ a (sI S 1043 ((S.1 1043) + 1))) H := hP
  have hD : va_D A (cW cI cZ a (sI S 1043 ((S.1 1043) + 1))) := hD
  exact W.vret hx hb hr (fun t ht hW => ⟨⟨(sI S 1043 ((S.1 1043) + 1)), rfl, hZ, by rw [ht]; exact hP, va_K.moved hW.alike hK, hD⟩, hS.F ht⟩) hS.2.2 dX4_put_45 hlocks
def rs_X4_put_25 (S : St)  : St := (rs_X4_put_35 (sI S 1042 ((S.1 1042) + 1)))
def ok_X4_put_25 (S : St)  : Prop := ok_X4_put_35 (sI S 1042 ((S.1 1042) + 1))
set_option maxHeartbeats 4000000 in
set_option maxRecDepth 100000 in
theorem w_X4_put_25 {p : Program} {l : Launch} {e : Env} {s : State} {m : MethodId} {args : Array Value} {below : List Frame} {meth : Method} {c : Code} {dC : Nat → ClassId} {dI : Nat → Nat → Nat} {cI cZ : ClassId} {a : Nat → Nat} {A : Nat → Prop} (C0 : Cx p s m args meth c RX4 cX4_put none 2 wsX4_put) (hK : va_K (dC, dI) vwCl (tI cI cZ) s) (hA : ∀ q, s.heap.size ≤ q → A q) (Z : St) (S : St)  (hok : ok_X4_put_25 S) (hZ : rs_X4_put_25 S = Z) (H : Heap) (locs : List Loc) (hP : va_P (dC, dI) vwCl (cW cI cZ a S) H) (hD : va_D A (cW cI cZ a S)) (hS : va_S A s.heap H locs) (ls : Array Slot) (hl : lv_has ls 2 [(0, .ref (a 26))]) : W p l e rm_X4_put s m args below meth c H locs 0 0 (MQ below (va_Qv (fun u : St => u = Z) (cWB dC dI cI cZ a A) A) args s 0 0 A) (F0 m 25 ls []) := by
  obtain ⟨hx, hb, hr, hml, hown, hts, hlocks⟩ := id C0
  rw [ok_X4_put_25] at hok
  rw [rs_X4_put_25] at hZ
  refine lv_aload_n hx hb dX4_put_25 rfl (lv_at hl 0 rfl) ?_
  refine lv_dup hx hb dX4_put_26 rfl ?_
  refine va_get (D := (dC, dI)) (ci := 3) (v := .int (S.1 1042)) (C := RX4) (T := TX4) (N := 6) hx hb hts iX4_put_X4 hown hK hP 26 rfl rfl 2 (by decide) (hts (.fieldLink RX4 47 "RiskHouse$Machine" "depth" "I") (by decide +kernel)) (fun _ h9 => h9) rfl dX4_put_27 ?_
  refine lv_iconst (v := 1) hx hb dX4_put_30 (by decide) ?_
  refine lv_iadd hx hb dX4_put_31 ?_
  refine va_put (D := (dC, dI)) (ci := 3) (v := .int ((S.1 1042) + 1)) (ty := .int) (C := RX4) (T := TX4) (N := 6) hx hb hts iX4_put_X4 tyX4 tyX4_ok nmX4 hown hK hP hD hS 26 rfl rfl 2 (by decide) (hts (.fieldLink RX4 47 "RiskHouse$Machine" "depth" "I") (by decide +kernel)) (fun _ h9 => h9) rfl (by decide +kernel) rfl rfl (Nat.le_of_ble_eq_true rfl) dX4_put_32 (fun H locs hP hD hS => ?_)
  have hP : va_P (dC, dI) vwCl (cW cI cZ a (sI S 1042 ((S.1 1042) + 1))) H := hP
  have hD : va_D A (cW cI cZ a (sI S 1042 ((S.1 1042) + 1))) := hD
  exact w_X4_put_35 C0 hK hA Z (sI S 1042 ((S.1 1042) + 1)) hok hZ _ _ hP hD hS _ (lv_sub hl [0] rfl)
def rs_X4_put (S : St) (x1 : Int32) : St := (if (S.1 1042) < 8 then (rs_X4_put_25 (sA S 27 (S.1 1042).toNatClampNeg x1)) else (sI S 1045 3))
def ok_X4_put (S : St) (x1 : Int32) : Prop := (if (S.1 1042) < 8 then ((vp_in (S.1 1042) 8) ∧ ok_X4_put_25 (sA S 27 (S.1 1042).toNatClampNeg x1)) else True)
set_option maxHeartbeats 4000000 in
set_option maxRecDepth 100000 in
theorem w_X4_put {p : Program} {l : Launch} {e : Env} {s : State} {m : MethodId} {args : Array Value} {below : List Frame} {meth : Method} {c : Code} {dC : Nat → ClassId} {dI : Nat → Nat → Nat} {cI cZ : ClassId} {a : Nat → Nat} {A : Nat → Prop} (C0 : Cx p s m args meth c RX4 cX4_put none 2 wsX4_put) (hK : va_K (dC, dI) vwCl (tI cI cZ) s) (hA : ∀ q, s.heap.size ≤ q → A q) (Z : St) (S : St) (x1 : Int32) (hok : ok_X4_put S x1) (hZ : rs_X4_put S x1 = Z) (H : Heap) (locs : List Loc) (hP : va_P (dC, dI) vwCl (cW cI cZ a S) H) (hD : va_D A (cW cI cZ a S)) (hS : va_S A s.heap H locs) (ls : Array Slot) (hl : lv_has ls 2 [(0, .ref (a 26)), (1, .int x1)]) : W p l e rm_X4_put s m args below meth c H locs 0 0 (MQ below (va_Qv (fun u : St => u = Z) (cWB dC dI cI cZ a A) A) args s 0 0 A) (F0 m 0 ls []) := by
  obtain ⟨hx, hb, hr, hml, hown, hts, hlocks⟩ := id C0
  rw [ok_X4_put] at hok
  rw [rs_X4_put] at hZ
  refine lv_aload_n hx hb dX4_put_0 rfl (lv_at hl 0 rfl) ?_
  refine va_get (D := (dC, dI)) (ci := 3) (v := .int (S.1 1042)) (C := RX4) (T := TX4) (N := 6) hx hb hts iX4_put_X4 hown hK hP 26 rfl rfl 2 (by decide) (hts (.fieldLink RX4 47 "RiskHouse$Machine" "depth" "I") (by decide +kernel)) (fun _ h9 => h9) rfl dX4_put_1 ?_
  refine lv_bipush (v := 8) hx hb dX4_put_4 (by decide) ?_
  refine lv_icmp_lt (tgt := 15) hx hb dX4_put_6 (by decide) (fun c_1 => ?_) (fun c_1 => ?_)
  · have hok := okT hok c_1
    have hZ := rsT hZ c_1
    refine lv_aload_n hx hb dX4_put_15 rfl (lv_at hl 0 rfl) ?_
    refine va_get (D := (dC, dI)) (ci := 3) (v := .ref (a 27)) (C := RX4) (T := TX4) (N := 6) hx hb hts iX4_put_X4 hown hK hP 26 rfl rfl 1 (by decide) (hts (.fieldLink RX4 9 "RiskHouse$Machine" "stack" "[I") (by decide +kernel)) (fun _ h9 => h9) rfl dX4_put_16 ?_
    refine lv_aload_n hx hb dX4_put_19 rfl (lv_at hl 0 rfl) ?_
    refine va_get (D := (dC, dI)) (ci := 3) (v := .int (S.1 1042)) (C := RX4) (T := TX4) (N := 6) hx hb hts iX4_put_X4 hown hK hP 26 rfl rfl 2 (by decide) (hts (.fieldLink RX4 47 "RiskHouse$Machine" "depth" "I") (by decide +kernel)) (fun _ h9 => h9) rfl dX4_put_20 ?_
    refine lv_iload_n hx hb dX4_put_23 rfl (lv_at hl 1 rfl) ?_
    obtain ⟨h_2, hok⟩ := hok
    refine va_iast hx hb hK hP hD hS 27 0 rfl rfl h_2 dX4_put_24 (fun H locs hP hD hS => ?_)
    have hP : va_P (dC, dI) vwCl (cW cI cZ a (sA S 27 (S.1 1042).toNatClampNeg x1)) H := hP
    have hD : va_D A (cW cI cZ a (sA S 27 (S.1 1042).toNatClampNeg x1)) := hD
    exact w_X4_put_25 C0 hK hA Z (sA S 27 (S.1 1042).toNatClampNeg x1) hok hZ _ _ hP hD hS _ (lv_sub hl [0] rfl)
  · have hok := okF hok c_1
    have hZ := rsF hZ c_1
    refine lv_aload_n hx hb dX4_put_9 rfl (lv_at hl 0 rfl) ?_
    refine lv_iconst (v := 3) hx hb dX4_put_10 (by decide) ?_
    refine va_put (D := (dC, dI)) (ci := 3) (v := .int 3) (ty := .int) (C := RX4) (T := TX4) (N := 6) hx hb hts iX4_put_X4 tyX4 tyX4_ok nmX4 hown hK hP hD hS 26 rfl rfl 5 (by decide) (hts (.fieldLink RX4 31 "RiskHouse$Machine" "failure" "I") (by decide +kernel)) (fun _ h9 => h9) rfl (by decide +kernel) rfl rfl (Nat.le_of_ble_eq_true rfl) dX4_put_11 (fun H locs hP hD hS => ?_)
    have hP : va_P (dC, dI) vwCl (cW cI cZ a (sI S 1045 3)) H := hP
    have hD : va_D A (cW cI cZ a (sI S 1045 3)) := hD
    exact W.vret hx hb hr (fun t ht hW => ⟨⟨(sI S 1045 3), rfl, hZ, by rw [ht]; exact hP, va_K.moved hW.alike hK, hD⟩, hS.F ht⟩) hS.2.2 dX4_put_14 hlocks
set_option maxHeartbeats 4000000 in
set_option maxRecDepth 100000 in
theorem c_X4_put (l : Launch) (dC : Nat → ClassId) (dI : Nat → Nat → Nat) (cI cZ : ClassId) (a : Nat → Nat) (sz : Nat) (S : St) (x1 : Int32) (hok : ok_X4_put S x1) : Met l yX4_put wsX4_put rm_X4_put (va_Pc [.ref (a 26), .int x1] (cWP dC dI cI cZ a sz S)) (va_Qv (fun u : St => u = rs_X4_put S x1) (cWB dC dI cI cZ a (va_A (cW cI cZ a S) sz)) (va_A (cW cI cZ a S) sz)) 0 0 (va_A (cW cI cZ a S) sz) := by
  refine Met.ofW (cc := cX4_put) (maxL := 2) (ret := none) (by decide) rfl ?_
  intro p e s m args below meth c s₁ B hml hv
  obtain ⟨rfl, hsz, hP, hK, hD0⟩ := hv
  subst hsz
  have hD := hD0.self (sz := s.heap.size)
  have hl := lv_entry ([.ref (a 26), .int x1]) (n := 2) (Nat.le_of_ble_eq_true rfl)
  rw [lg_entry_eq]
  generalize (lg_sl ([.ref (a 26), .int x1]) ++ List.replicate (2 - (lg_sl ([.ref (a 26), .int x1])).length) Slot.unset).toArray = ls at hl ⊢
  have hl : lv_has ls 2 [(0, .ref (a 26)), (1, .int x1)] := hl
  exact w_X4_put ⟨B.exec, B.bytes, B.returns, hml, findClass_of_methodNamed B.named, atoms_spec (ws := wsX4_put) B.pre, B.notSynchronized⟩ hK (fun q h => Or.inr h) _ S x1 hok rfl _ _ hP hD va_S.rf ls hl
abbrev rm_X4_keep : Room := { frames := 1, cells := 0, slots := 0, locals := 21 }
theorem iX4_keep_X4 : ∀ w ∈ wsX40, w ∈ wsX4_keep := by decide +kernel
def rs_X4_keep_30 (S : St)  : St := (sI S 1043 ((S.1 1043) + 1))
def ok_X4_keep_30 (S : St)  : Prop := True
set_option maxHeartbeats 4000000 in
set_option maxRecDepth 100000 in
theorem w_X4_keep_30 {p : Program} {l : Launch} {e : Env} {s : State} {m : MethodId} {args : Array Value} {below : List Frame} {meth : Method} {c : Code} {dC : Nat → ClassId} {dI : Nat → Nat → Nat} {cI cZ : ClassId} {a : Nat → Nat} {A : Nat → Prop} (C0 : Cx p s m args meth c RX4 cX4_keep none 3 wsX4_keep) (hK : va_K (dC, dI) vwCl (tI cI cZ) s) (hA : ∀ q, s.heap.size ≤ q → A q) (Z : St) (S : St)  (hok : ok_X4_keep_30 S) (hZ : rs_X4_keep_30 S = Z) (H : Heap) (locs : List Loc) (hP : va_P (dC, dI) vwCl (cW cI cZ a S) H) (hD : va_D A (cW cI cZ a S)) (hS : va_S A s.heap H locs) (ls : Array Slot) (hl : lv_has ls 3 [(0, .ref (a 26))]) : W p l e rm_X4_keep s m args below meth c H locs 0 0 (MQ below (va_Qv (fun u : St => u = Z) (cWB dC dI cI cZ a A) A) args s 0 0 A) (F0 m 30 ls []) := by
  obtain ⟨hx, hb, hr, hml, hown, hts, hlocks⟩ := id C0
  rw [ok_X4_keep_30] at hok
  rw [rs_X4_keep_30] at hZ
  refine lv_aload_n hx hb dX4_keep_30 rfl (lv_at hl 0 rfl) ?_
  refine lv_dup hx hb dX4_keep_31 rfl ?_
  refine va_get (D := (dC, dI)) (ci := 3) (v := .int (S.1 1043)) (C := RX4) (T := TX4) (N := 6) hx hb hts iX4_keep_X4 hown hK hP 26 rfl rfl 3 (by decide) (hts (.fieldLink RX4 28 "RiskHouse$Machine" "at" "I") (by decide +kernel)) (fun _ h9 => h9) rfl dX4_keep_32 ?_
  refine lv_iconst (v := 1) hx hb dX4_keep_35 (by decide) ?_
  refine lv_iadd hx hb dX4_keep_36 ?_
  refine va_put (D := (dC, dI)) (ci := 3) (v := .int ((S.1 1043) + 1)) (ty := .int) (C := RX4) (T := TX4) (N := 6) hx hb hts iX4_keep_X4 tyX4 tyX4_ok nmX4 hown hK hP hD hS 26 rfl rfl 3 (by decide) (hts (.fieldLink RX4 28 "RiskHouse$Machine" "at" "I") (by decide +kernel)) (fun _ h9 => h9) rfl (by decide +kernel) rfl rfl (Nat.le_of_ble_eq_true rfl) dX4_keep_37 (fun H locs hP hD hS => ?_)
  have hP : va_P (dC, dI) vwCl (cW cI cZ a (sI S 1043 ((S.1 1043) + 1))) H := hP
  have hD : va_D A (cW cI cZ a (sI S 1043 ((S.1 1043) + 1))) := hD
  exact W.vret hx hb hr (fun t ht hW => ⟨⟨(sI S 1043 ((S.1 1043) + 1)), rfl, hZ, by rw [ht]; exact hP, va_K.moved hW.alike hK, hD⟩, hS.F ht⟩) hS.2.2 dX4_keep_40 hlocks
def rs_X4_keep_18 (S : St) (x1 : Int32) : St := (rs_X4_keep_30 (sA S 12 x1.toNatClampNeg ((S.2 27) (S.1 1042).toNatClampNeg)))
def ok_X4_keep_18 (S : St) (x1 : Int32) : Prop := ((vp_in (S.1 1042) 8) ∧ ((vp_in x1 4) ∧ ok_X4_keep_30 (sA S 12 x1.toNatClampNeg ((S.2 27) (S.1 1042).toNatClampNeg))))
set_option maxHeartbeats 4000000 in
set_option maxRecDepth 100000 in
theorem w_X4_keep_18 {p : Program} {l : Launch} {e : Env} {s : State} {m : MethodId} {args : Array Value} {below : List Frame} {meth : Method} {c : Code} {dC : Nat → ClassId} {dI : Nat → Nat → Nat} {cI cZ : ClassId} {a : Nat → Nat} {A : Nat → Prop} (C0 : Cx p s m args meth c RX4 cX4_keep none 3 wsX4_keep) (hK : va_K (dC, dI) vwCl (tI cI cZ) s) (hA : ∀ q, s.heap.size ≤ q → A q) (Z : St) (S : St) (x1 : Int32) (hok : ok_X4_keep_18 S x1) (hZ : rs_X4_keep_18 S x1 = Z) (H : Heap) (locs : List Loc) (hP : va_P (dC, dI) vwCl (cW cI cZ a S) H) (hD : va_D A (cW cI cZ a S)) (hS : va_S A s.heap H locs) (ls : Array Slot) (hl : lv_has ls 3 [(0, .ref (a 26)), (1, .int x1), (2, .ref (a 12))]) : W p l e rm_X4_keep s m args below meth c H locs 0 0 (MQ below (va_Qv (fun u : St => u = Z) (cWB dC dI cI cZ a A) A) args s 0 0 A) (F0 m 18 ls []) := by
  obtain ⟨hx, hb, hr, hml, hown, hts, hlocks⟩ := id C0
  rw [ok_X4_keep_18] at hok
  rw [rs_X4_keep_18] at hZ
  refine lv_aload_n hx hb dX4_keep_18 rfl (lv_at hl 2 rfl) ?_
  refine lv_iload_n hx hb dX4_keep_19 rfl (lv_at hl 1 rfl) ?_
  refine lv_aload_n hx hb dX4_keep_20 rfl (lv_at hl 0 rfl) ?_
  refine va_get (D := (dC, dI)) (ci := 3) (v := .ref (a 27)) (C := RX4) (T := TX4) (N := 6) hx hb hts iX4_keep_X4 hown hK hP 26 rfl rfl 1 (by decide) (hts (.fieldLink RX4 9 "RiskHouse$Machine" "stack" "[I") (by decide +kernel)) (fun _ h9 => h9) rfl dX4_keep_21 ?_
  refine lv_aload_n hx hb dX4_keep_24 rfl (lv_at hl 0 rfl) ?_
  refine va_get (D := (dC, dI)) (ci := 3) (v := .int (S.1 1042)) (C := RX4) (T := TX4) (N := 6) hx hb hts iX4_keep_X4 hown hK hP 26 rfl rfl 2 (by decide) (hts (.fieldLink RX4 47 "RiskHouse$Machine" "depth" "I") (by decide +kernel)) (fun _ h9 => h9) rfl dX4_keep_25 ?_
  obtain ⟨h_1, hok⟩ := hok
  refine va_iald (f := (S.2 27)) hx hb hK hP 27 0 rfl rfl h_1 dX4_keep_28 ?_
  obtain ⟨h_2, hok⟩ := hok
  refine va_iast hx hb hK hP hD hS 12 0 rfl rfl h_2 dX4_keep_29 (fun H locs hP hD hS => ?_)
  have hP : va_P (dC, dI) vwCl (cW cI cZ a (sA S 12 x1.toNatClampNeg ((S.2 27) (S.1 1042).toNatClampNeg))) H := hP
  have hD : va_D A (cW cI cZ a (sA S 12 x1.toNatClampNeg ((S.2 27) (S.1 1042).toNatClampNeg))) := hD
  exact w_X4_keep_30 C0 hK hA Z (sA S 12 x1.toNatClampNeg ((S.2 27) (S.1 1042).toNatClampNeg)) hok hZ _ _ hP hD hS _ (lv_sub hl [0] rfl)
def rs_X4_keep_5 (S : St) (x1 : Int32) (z0 : Int32) : St := (if z0 = 0 then S else (rs_X4_keep_18 (sI S 1042 ((S.1 1042) - 1)) x1))
def ok_X4_keep_5 (S : St) (x1 : Int32) (z0 : Int32) : Prop := (if z0 = 0 then True else ok_X4_keep_18 (sI S 1042 ((S.1 1042) - 1)) x1)
set_option maxHeartbeats 4000000 in
set_option maxRecDepth 100000 in
theorem w_X4_keep_5 {p : Program} {l : Launch} {e : Env} {s : State} {m : MethodId} {args : Array Value} {below : List Frame} {meth : Method} {c : Code} {dC : Nat → ClassId} {dI : Nat → Nat → Nat} {cI cZ : ClassId} {a : Nat → Nat} {A : Nat → Prop} (C0 : Cx p s m args meth c RX4 cX4_keep none 3 wsX4_keep) (hK : va_K (dC, dI) vwCl (tI cI cZ) s) (hA : ∀ q, s.heap.size ≤ q → A q) (Z : St) (S : St) (x1 : Int32) (z0 : Int32) (hok : ok_X4_keep_5 S x1 z0) (hZ : rs_X4_keep_5 S x1 z0 = Z) (H : Heap) (locs : List Loc) (hP : va_P (dC, dI) vwCl (cW cI cZ a S) H) (hD : va_D A (cW cI cZ a S)) (hS : va_S A s.heap H locs) (ls : Array Slot) (hl : lv_has ls 3 [(0, .ref (a 26)), (1, .int x1), (2, .ref (a 12))]) : W p l e rm_X4_keep s m args below meth c H locs 0 0 (MQ below (va_Qv (fun u : St => u = Z) (cWB dC dI cI cZ a A) A) args s 0 0 A) (F0 m 5 ls [.int z0]) := by
  obtain ⟨hx, hb, hr, hml, hown, hts, hlocks⟩ := id C0
  rw [ok_X4_keep_5] at hok
  rw [rs_X4_keep_5] at hZ
  refine lv_if_eq (tgt := 40) hx hb dX4_keep_5 (by decide) (fun c_1 => ?_) (fun c_1 => ?_)
  · have hok := okT hok c_1
    have hZ := rsT hZ c_1
    exact W.vret hx hb hr (fun t ht hW => ⟨⟨S, rfl, hZ, by rw [ht]; exact hP, va_K.moved hW.alike hK, hD⟩, hS.F ht⟩) hS.2.2 dX4_keep_40 hlocks
  · have hok := okF hok c_1
    have hZ := rsF hZ c_1
    refine lv_aload_n hx hb dX4_keep_8 rfl (lv_at hl 0 rfl) ?_
    refine lv_dup hx hb dX4_keep_9 rfl ?_
    refine va_get (D := (dC, dI)) (ci := 3) (v := .int (S.1 1042)) (C := RX4) (T := TX4) (N := 6) hx hb hts iX4_keep_X4 hown hK hP 26 rfl rfl 2 (by decide) (hts (.fieldLink RX4 47 "RiskHouse$Machine" "depth" "I") (by decide +kernel)) (fun _ h9 => h9) rfl dX4_keep_10 ?_
    refine lv_iconst (v := 1) hx hb dX4_keep_13 (by decide) ?_
    refine lv_isub hx hb dX4_keep_14 ?_
    refine va_put (D := (dC, dI)) (ci := 3) (v := .int ((S.1 1042) - 1)) (ty := .int) (C := RX4) (T := TX4) (N := 6) hx hb hts iX4_keep_X4 tyX4 tyX4_ok nmX4 hown hK hP hD hS 26 rfl rfl 2 (by decide) (hts (.fieldLink RX4 47 "RiskHouse$Machine" "depth" "I") (by decide +kernel)) (fun _ h9 => h9) rfl (by decide +kernel) rfl rfl (Nat.le_of_ble_eq_true rfl) dX4_keep_15 (fun H locs hP hD hS => ?_)
    have hP : va_P (dC, dI) vwCl (cW cI cZ a (sI S 1042 ((S.1 1042) - 1))) H := hP
    have hD : va_D A (cW cI cZ a (sI S 1042 ((S.1 1042) - 1))) := hD
    exact w_X4_keep_18 C0 hK hA Z (sI S 1042 ((S.1 1042) - 1)) x1 hok hZ _ _ hP hD hS _ (lv_sub hl [0, 1, 2] rfl)
def rs_X4_keep (S : St) (x1 : Int32) : St := (rs_X4_keep_5 (rs_X4_canTake S 1).2 x1 ((rs_X4_canTake S 1).1))
def ok_X4_keep (S : St) (x1 : Int32) : Prop := ((ok_X4_canTake S 1) ∧ ok_X4_keep_5 (rs_X4_canTake S 1).2 x1 ((rs_X4_canTake S 1).1))
set_option maxHeartbeats 4000000 in
set_option maxRecDepth 100000 in
theorem w_X4_keep {p : Program} {l : Launch} {e : Env} {s : State} {m : MethodId} {args : Array Value} {below : List Frame} {meth : Method} {c : Code} {dC : Nat → ClassId} {dI : Nat → Nat → Nat} {cI cZ : ClassId} {a : Nat → Nat} {A : Nat → Prop} (C0 : Cx p s m args meth c RX4 cX4_keep none 3 wsX4_keep) (hK : va_K (dC, dI) vwCl (tI cI cZ) s) (hA : ∀ q, s.heap.size ≤ q → A q) (Z : St) (S : St) (x1 : Int32) (hok : ok_X4_keep S x1) (hZ : rs_X4_keep S x1 = Z) (H : Heap) (locs : List Loc) (hP : va_P (dC, dI) vwCl (cW cI cZ a S) H) (hD : va_D A (cW cI cZ a S)) (hS : va_S A s.heap H locs) (ls : Array Slot) (hl : lv_has ls 3 [(0, .ref (a 26)), (1, .int x1), (2, .ref (a 12))]) : W p l e rm_X4_keep s m args below meth c H locs 0 0 (MQ below (va_Qv (fun u : St => u = Z) (cWB dC dI cI cZ a A) A) args s 0 0 A) (F0 m 0 ls []) := by
  obtain ⟨hx, hb, hr, hml, hown, hts, hlocks⟩ := id C0
  rw [ok_X4_keep] at hok
  rw [rs_X4_keep] at hZ
  refine lv_aload_n hx hb dX4_keep_0 rfl (lv_at hl 0 rfl) ?_
  refine lv_iconst (v := 1) hx hb dX4_keep_1 (by decide) ?_
  obtain ⟨k_1, hok⟩ := hok
  have hFc := wFw (w := cW cI cZ a S) hD hS hA
  refine va_calli (va_runV (As := [.int 1]) (rest := []) ⟨hx, hb, hml, hown, hts⟩ (c_X4_canTake l dC dI cI cZ a H.size S 1 k_1) (cwV 1 hts gX4_keep_X4_canTake rfl rfl rfl (by decide +kernel) ⟨Nat.le_of_ble_eq_true rfl, Nat.le_of_ble_eq_true rfl⟩) ⟨wBl, va_recv hK hP (ci := 3) (q0 := 26) rfl rfl, fun U hU hW => ⟨rfl, by rw [hU], by rw [hU]; exact hP, va_K.moved hW.alike hK, hD.weaken (fun _ _ _ _ => trivial)⟩⟩ rfl rfl hl.1 rfl (lv_room (Nat.le_of_ble_eq_true rfl)) dX4_keep_2 ⟨Nat.zero_le _, Nat.zero_le _⟩) hS (fun q _ h => hFc q h) hFc (fun r u t H1 locs ht hvm hw hB hz1 hk1 hS => ?_)
  obtain ⟨hP, hD⟩ := wJn ht hFc hB.1 hB.2.2
  have e1 : r = (rs_X4_canTake S 1).1 := congrArg Prod.fst hw
  have e2 : u = (rs_X4_canTake S 1).2 := congrArg Prod.snd hw
  rw [e1]
  rw [e2] at hP hD
  generalize H1 = H at hP hS ⊢
  exact w_X4_keep_5 C0 hK hA Z (rs_X4_canTake S 1).2 x1 ((rs_X4_canTake S 1).1) hok hZ _ _ hP hD hS _ (lv_sub hl [0, 1, 2] rfl)
set_option maxHeartbeats 4000000 in
set_option maxRecDepth 100000 in
theorem c_X4_keep (l : Launch) (dC : Nat → ClassId) (dI : Nat → Nat → Nat) (cI cZ : ClassId) (a : Nat → Nat) (sz : Nat) (S : St) (x1 : Int32) (hok : ok_X4_keep S x1) : Met l yX4_keep wsX4_keep rm_X4_keep (va_Pc [.ref (a 26), .int x1, .ref (a 12)] (cWP dC dI cI cZ a sz S)) (va_Qv (fun u : St => u = rs_X4_keep S x1) (cWB dC dI cI cZ a (va_A (cW cI cZ a S) sz)) (va_A (cW cI cZ a S) sz)) 0 0 (va_A (cW cI cZ a S) sz) := by
  refine Met.ofW (cc := cX4_keep) (maxL := 3) (ret := none) (by decide) rfl ?_
  intro p e s m args below meth c s₁ B hml hv
  obtain ⟨rfl, hsz, hP, hK, hD0⟩ := hv
  subst hsz
  have hD := hD0.self (sz := s.heap.size)
  have hl := lv_entry ([.ref (a 26), .int x1, .ref (a 12)]) (n := 3) (Nat.le_of_ble_eq_true rfl)
  rw [lg_entry_eq]
  generalize (lg_sl ([.ref (a 26), .int x1, .ref (a 12)]) ++ List.replicate (3 - (lg_sl ([.ref (a 26), .int x1, .ref (a 12)])).length) Slot.unset).toArray = ls at hl ⊢
  have hl : lv_has ls 3 [(0, .ref (a 26)), (1, .int x1), (2, .ref (a 12))] := hl
  exact w_X4_keep ⟨B.exec, B.bytes, B.returns, hml, findClass_of_methodNamed B.named, atoms_spec (ws := wsX4_keep) B.pre, B.notSynchronized⟩ hK (fun q h => Or.inr h) _ S x1 hok rfl _ _ hP hD va_S.rf ls hl
abbrev rm_X4_goIfZero : Room := { frames := 1, cells := 0, slots := 0, locals := 21 }
theorem iX4_goIfZero_X4 : ∀ w ∈ wsX40, w ∈ wsX4_goIfZero := by decide +kernel
def rs_X4_goIfZero_41 (S : St) (z1 : Int32) : St := (sI S 1043 z1)
def ok_X4_goIfZero_41 (S : St) (z1 : Int32) : Prop := True
set_option maxHeartbeats 4000000 in
set_option maxRecDepth 100000 in
theorem w_X4_goIfZero_41 {p : Program} {l : Launch} {e : Env} {s : State} {m : MethodId} {args : Array Value} {below : List Frame} {meth : Method} {c : Code} {dC : Nat → ClassId} {dI : Nat → Nat → Nat} {cI cZ : ClassId} {a : Nat → Nat} {A : Nat → Prop} (C0 : Cx p s m args meth c RX4 cX4_goIfZero none 2 wsX4_goIfZero) (hK : va_K (dC, dI) vwCl (tI cI cZ) s) (hA : ∀ q, s.heap.size ≤ q → A q) (Z : St) (S : St) (z1 : Int32) (hok : ok_X4_goIfZero_41 S z1) (hZ : rs_X4_goIfZero_41 S z1 = Z) (H : Heap) (locs : List Loc) (hP : va_P (dC, dI) vwCl (cW cI cZ a S) H) (hD : va_D A (cW cI cZ a S)) (hS : va_S A s.heap H locs) (ls : Array Slot) (hl : lv_has ls 2 []) : W p l e rm_X4_goIfZero s m args below meth c H locs 0 0 (MQ below (va_Qv (fun u : St => u = Z) (cWB dC dI cI cZ a A) A) args s 0 0 A) (F0 m 41 ls [.int z1, .ref (a 26)]) := by
  obtain ⟨hx, hb, hr, hml, hown, hts, hlocks⟩ := id C0
  rw [ok_X4_goIfZero_41] at hok
  rw [rs_X4_goIfZero_41] at hZ
  refine va_put (D := (dC, dI)) (ci := 3) (v := .int z1) (ty := .int) (C := RX4) (T := TX4) (N := 6) hx hb hts iX4_goIfZero_X4 tyX4 tyX4_ok nmX4 hown hK hP hD hS 26 rfl rfl 3 (by decide) (hts (.fieldLink RX4 28 "RiskHouse$Machine" "at" "I") (by decide +kernel)) (fun _ h9 => h9) rfl (by decide +kernel) rfl rfl (Nat.le_of_ble_eq_true rfl) dX4_goIfZero_41 (fun H locs hP hD hS => ?_)
  have hP : va_P (dC, dI) vwCl (cW cI cZ a (sI S 1043 z1)) H := hP
  have hD : va_D A (cW cI cZ a (sI S 1043 z1)) := hD
  exact W.vret hx hb hr (fun t ht hW => ⟨⟨(sI S 1043 z1), rfl, hZ, by rw [ht]; exact hP, va_K.moved hW.alike hK, hD⟩, hS.F ht⟩) hS.2.2 dX4_goIfZero_44 hlocks
def rs_X4_goIfZero_5 (S : St) (x1 : Int32) (z0 : Int32) : St := (if z0 = 0 then S else (if ((S.2 27) ((S.1 1042) - 1).toNatClampNeg) = 0 then (rs_X4_goIfZero_41 (sI S 1042 ((S.1 1042) - 1)) x1) else (rs_X4_goIfZero_41 (sI S 1042 ((S.1 1042) - 1)) ((S.1 1043) + 1))))
def ok_X4_goIfZero_5 (S : St) (x1 : Int32) (z0 : Int32) : Prop := (if z0 = 0 then True else ((vp_in ((S.1 1042) - 1) 8) ∧ (if ((S.2 27) ((S.1 1042) - 1).toNatClampNeg) = 0 then ok_X4_goIfZero_41 (sI S 1042 ((S.1 1042) - 1)) x1 else ok_X4_goIfZero_41 (sI S 1042 ((S.1 1042) - 1)) ((S.1 1043) + 1))))
set_option maxHeartbeats 4000000 in
set_option maxRecDepth 100000 in
theorem w_X4_goIfZero_5 {p : Program} {l : Launch} {e : Env} {s : State} {m : MethodId} {args : Array Value} {below : List Frame} {meth : Method} {c : Code} {dC : Nat → ClassId} {dI : Nat → Nat → Nat} {cI cZ : ClassId} {a : Nat → Nat} {A : Nat → Prop} (C0 : Cx p s m args meth c RX4 cX4_goIfZero none 2 wsX4_goIfZero) (hK : va_K (dC, dI) vwCl (tI cI cZ) s) (hA : ∀ q, s.heap.size ≤ q → A q) (Z : St) (S : St) (x1 : Int32) (z0 : Int32) (hok : ok_X4_goIfZero_5 S x1 z0) (hZ : rs_X4_goIfZero_5 S x1 z0 = Z) (H : Heap) (locs : List Loc) (hP : va_P (dC, dI) vwCl (cW cI cZ a S) H) (hD : va_D A (cW cI cZ a S)) (hS : va_S A s.heap H locs) (ls : Array Slot) (hl : lv_has ls 2 [(0, .ref (a 26)), (1, .int x1)]) : W p l e rm_X4_goIfZero s m args below meth c H locs 0 0 (MQ below (va_Qv (fun u : St => u = Z) (cWB dC dI cI cZ a A) A) args s 0 0 A) (F0 m 5 ls [.int z0]) := by
  obtain ⟨hx, hb, hr, hml, hown, hts, hlocks⟩ := id C0
  rw [ok_X4_goIfZero_5] at hok
  rw [rs_X4_goIfZero_5] at hZ
  refine lv_if_eq (tgt := 44) hx hb dX4_goIfZero_5 (by decide) (fun c_1 => ?_) (fun c_1 => ?_)
  · have hok := okT hok c_1
    have hZ := rsT hZ c_1
    exact W.vret hx hb hr (fun t ht hW => ⟨⟨S, rfl, hZ, by rw [ht]; exact hP, va_K.moved hW.alike hK, hD⟩, hS.F ht⟩) hS.2.2 dX4_goIfZero_44 hlocks
  · have hok := okF hok c_1
    have hZ := rsF hZ c_1
    refine lv_aload_n hx hb dX4_goIfZero_8 rfl (lv_at hl 0 rfl) ?_
    refine lv_dup hx hb dX4_goIfZero_9 rfl ?_
    refine va_get (D := (dC, dI)) (ci := 3) (v := .int (S.1 1042)) (C := RX4) (T := TX4) (N := 6) hx hb hts iX4_goIfZero_X4 hown hK hP 26 rfl rfl 2 (by decide) (hts (.fieldLink RX4 47 "RiskHouse$Machine" "depth" "I") (by decide +kernel)) (fun _ h9 => h9) rfl dX4_goIfZero_10 ?_
    refine lv_iconst (v := 1) hx hb dX4_goIfZero_13 (by decide) ?_
    refine lv_isub hx hb dX4_goIfZero_14 ?_
    refine va_put (D := (dC, dI)) (ci := 3) (v := .int ((S.1 1042) - 1)) (ty := .int) (C := RX4) (T := TX4) (N := 6) hx hb hts iX4_goIfZero_X4 tyX4 tyX4_ok nmX4 hown hK hP hD hS 26 rfl rfl 2 (by decide) (hts (.fieldLink RX4 47 "RiskHouse$Machine" "depth" "I") (by decide +kernel)) (fun _ h9 => h9) rfl (by decide +kernel) rfl rfl (Nat.le_of_ble_eq_true rfl) dX4_goIfZero_15 (fun H locs hP hD hS => ?_)
    have hP : va_P (dC, dI) vwCl (cW cI cZ a (sI S 1042 ((S.1 1042) - 1))) H := hP
    have hD : va_D A (cW cI cZ a (sI S 1042 ((S.1 1042) - 1))) := hD
    refine lv_aload_n hx hb dX4_goIfZero_18 rfl (lv_at hl 0 rfl) ?_
    refine lv_aload_n hx hb dX4_goIfZero_19 rfl (lv_at hl 0 rfl) ?_
    refine va_get (D := (dC, dI)) (ci := 3) (v := .ref (a 27)) (C := RX4) (T := TX4) (N := 6) hx hb hts iX4_goIfZero_X4 hown hK hP 26 rfl rfl 1 (by decide) (hts (.fieldLink RX4 9 "RiskHouse$Machine" "stack" "[I") (by decide +kernel)) (fun _ h9 => h9) rfl dX4_goIfZero_20 ?_
    refine lv_aload_n hx hb dX4_goIfZero_23 rfl (lv_at hl 0 rfl) ?_
    refine va_get (D := (dC, dI)) (ci := 3) (v := .int ((S.1 1042) - 1)) (C := RX4) (T := TX4) (N := 6) hx hb hts iX4_goIfZero_X4 hown hK hP 26 rfl rfl 2 (by decide) (hts (.fieldLink RX4 47 "RiskHouse$Machine" "depth" "I") (by decide +kernel)) (fun _ h9 => h9) rfl dX4_goIfZero_24 ?_
    obtain ⟨h_2, hok⟩ := hok
    refine va_iald (f := (S.2 27)) hx hb hK hP 27 0 rfl rfl h_2 dX4_goIfZero_27 ?_
    refine lv_if_ne (tgt := 35) hx hb dX4_goIfZero_28 (by decide) (fun c_3 => ?_) (fun c_3 => ?_)
    · have hok := okF hok c_3
      have hZ := rsF hZ c_3
      refine lv_aload_n hx hb dX4_goIfZero_35 rfl (lv_at hl 0 rfl) ?_
      refine va_get (D := (dC, dI)) (ci := 3) (v := .int (S.1 1043)) (C := RX4) (T := TX4) (N := 6) hx hb hts iX4_goIfZero_X4 hown hK hP 26 rfl rfl 3 (by decide) (hts (.fieldLink RX4 28 "RiskHouse$Machine" "at" "I") (by decide +kernel)) (fun _ h9 => h9) rfl dX4_goIfZero_36 ?_
      refine lv_iconst (v := 1) hx hb dX4_goIfZero_39 (by decide) ?_
      refine lv_iadd hx hb dX4_goIfZero_40 ?_
      exact w_X4_goIfZero_41 C0 hK hA Z (sI S 1042 ((S.1 1042) - 1)) ((S.1 1043) + 1) hok hZ _ _ hP hD hS _ (lv_sub hl [] rfl)
    · have hok := okT hok c_3
      have hZ := rsT hZ c_3
      refine lv_iload_n hx hb dX4_goIfZero_31 rfl (lv_at hl 1 rfl) ?_
      refine lv_goto (tgt := 41) hx hb dX4_goIfZero_32 (by decide) ?_
      exact w_X4_goIfZero_41 C0 hK hA Z (sI S 1042 ((S.1 1042) - 1)) x1 hok hZ _ _ hP hD hS _ (lv_sub hl [] rfl)
def rs_X4_goIfZero (S : St) (x1 : Int32) : St := (rs_X4_goIfZero_5 (rs_X4_canTake S 1).2 x1 ((rs_X4_canTake S 1).1))
def ok_X4_goIfZero (S : St) (x1 : Int32) : Prop := ((ok_X4_canTake S 1) ∧ ok_X4_goIfZero_5 (rs_X4_canTake S 1).2 x1 ((rs_X4_canTake S 1).1))
set_option maxHeartbeats 4000000 in
set_option maxRecDepth 100000 in
theorem w_X4_goIfZero {p : Program} {l : Launch} {e : Env} {s : State} {m : MethodId} {args : Array Value} {below : List Frame} {meth : Method} {c : Code} {dC : Nat → ClassId} {dI : Nat → Nat → Nat} {cI cZ : ClassId} {a : Nat → Nat} {A : Nat → Prop} (C0 : Cx p s m args meth c RX4 cX4_goIfZero none 2 wsX4_goIfZero) (hK : va_K (dC, dI) vwCl (tI cI cZ) s) (hA : ∀ q, s.heap.size ≤ q → A q) (Z : St) (S : St) (x1 : Int32) (hok : ok_X4_goIfZero S x1) (hZ : rs_X4_goIfZero S x1 = Z) (H : Heap) (locs : List Loc) (hP : va_P (dC, dI) vwCl (cW cI cZ a S) H) (hD : va_D A (cW cI cZ a S)) (hS : va_S A s.heap H locs) (ls : Array Slot) (hl : lv_has ls 2 [(0, .ref (a 26)), (1, .int x1)]) : W p l e rm_X4_goIfZero s m args below meth c H locs 0 0 (MQ below (va_Qv (fun u : St => u = Z) (cWB dC dI cI cZ a A) A) args s 0 0 A) (F0 m 0 ls []) := by
  obtain ⟨hx, hb, hr, hml, hown, hts, hlocks⟩ := id C0
  rw [ok_X4_goIfZero] at hok
  rw [rs_X4_goIfZero] at hZ
  refine lv_aload_n hx hb dX4_goIfZero_0 rfl (lv_at hl 0 rfl) ?_
  refine lv_iconst (v := 1) hx hb dX4_goIfZero_1 (by decide) ?_
  obtain ⟨k_1, hok⟩ := hok
  have hFc := wFw (w := cW cI cZ a S) hD hS hA
  refine va_calli (va_runV (As := [.int 1]) (rest := []) ⟨hx, hb, hml, hown, hts⟩ (c_X4_canTake l dC dI cI cZ a H.size S 1 k_1) (cwV 1 hts gX4_goIfZero_X4_canTake rfl rfl rfl (by decide +kernel) ⟨Nat.le_of_ble_eq_true rfl, Nat.le_of_ble_eq_true rfl⟩) ⟨wBl, va_recv hK hP (ci := 3) (q0 := 26) rfl rfl, fun U hU hW => ⟨rfl, by rw [hU], by rw [hU]; exact hP, va_K.moved hW.alike hK, hD.weaken (fun _ _ _ _ => trivial)⟩⟩ rfl rfl hl.1 rfl (lv_room (Nat.le_of_ble_eq_true rfl)) dX4_goIfZero_2 ⟨Nat.zero_le _, Nat.zero_le _⟩) hS (fun q _ h => hFc q h) hFc (fun r u t H1 locs ht hvm hw hB hz1 hk1 hS => ?_)
  obtain ⟨hP, hD⟩ := wJn ht hFc hB.1 hB.2.2
  have e1 : r = (rs_X4_canTake S 1).1 := congrArg Prod.fst hw
  have e2 : u = (rs_X4_canTake S 1).2 := congrArg Prod.snd hw
  rw [e1]
  rw [e2] at hP hD
  generalize H1 = H at hP hS ⊢
  exact w_X4_goIfZero_5 C0 hK hA Z (rs_X4_canTake S 1).2 x1 ((rs_X4_canTake S 1).1) hok hZ _ _ hP hD hS _ (lv_sub hl [0, 1] rfl)
set_option maxHeartbeats 4000000 in
set_option maxRecDepth 100000 in
theorem c_X4_goIfZero (l : Launch) (dC : Nat → ClassId) (dI : Nat → Nat → Nat) (cI cZ : ClassId) (a : Nat → Nat) (sz : Nat) (S : St) (x1 : Int32) (hok : ok_X4_goIfZero S x1) : Met l yX4_goIfZero wsX4_goIfZero rm_X4_goIfZero (va_Pc [.ref (a 26), .int x1] (cWP dC dI cI cZ a sz S)) (va_Qv (fun u : St => u = rs_X4_goIfZero S x1) (cWB dC dI cI cZ a (va_A (cW cI cZ a S) sz)) (va_A (cW cI cZ a S) sz)) 0 0 (va_A (cW cI cZ a S) sz) := by
  refine Met.ofW (cc := cX4_goIfZero) (maxL := 2) (ret := none) (by decide) rfl ?_
  intro p e s m args below meth c s₁ B hml hv
  obtain ⟨rfl, hsz, hP, hK, hD0⟩ := hv
  subst hsz
  have hD := hD0.self (sz := s.heap.size)
  have hl := lv_entry ([.ref (a 26), .int x1]) (n := 2) (Nat.le_of_ble_eq_true rfl)
  rw [lg_entry_eq]
  generalize (lg_sl ([.ref (a 26), .int x1]) ++ List.replicate (2 - (lg_sl ([.ref (a 26), .int x1])).length) Slot.unset).toArray = ls at hl ⊢
  have hl : lv_has ls 2 [(0, .ref (a 26)), (1, .int x1)] := hl
  exact w_X4_goIfZero ⟨B.exec, B.bytes, B.returns, hml, findClass_of_methodNamed B.named, atoms_spec (ws := wsX4_goIfZero) B.pre, B.notSynchronized⟩ hK (fun q h => Or.inr h) _ S x1 hok rfl _ _ hP hD va_S.rf ls hl
abbrev rm_X4_join : Room := { frames := 1, cells := 0, slots := 0, locals := 21 }
theorem iX4_join_X4 : ∀ w ∈ wsX40, w ∈ wsX4_join := by decide +kernel
def rs_X4_join_75 (S : St)  : St := S
def ok_X4_join_75 (S : St)  : Prop := True
set_option maxHeartbeats 4000000 in
set_option maxRecDepth 100000 in
theorem w_X4_join_75 {p : Program} {l : Launch} {e : Env} {s : State} {m : MethodId} {args : Array Value} {below : List Frame} {meth : Method} {c : Code} {dC : Nat → ClassId} {dI : Nat → Nat → Nat} {cI cZ : ClassId} {a : Nat → Nat} {A : Nat → Prop} (C0 : Cx p s m args meth c RX4 cX4_join none 4 wsX4_join) (hK : va_K (dC, dI) vwCl (tI cI cZ) s) (hA : ∀ q, s.heap.size ≤ q → A q) (Z : St) (S : St)  (hok : ok_X4_join_75 S) (hZ : rs_X4_join_75 S = Z) (H : Heap) (locs : List Loc) (hP : va_P (dC, dI) vwCl (cW cI cZ a S) H) (hD : va_D A (cW cI cZ a S)) (hS : va_S A s.heap H locs) (ls : Array Slot) (hl : lv_has ls 4 []) : W p l e rm_X4_join s m args below meth c H locs 0 0 (MQ below (va_Qv (fun u : St => u = Z) (cWB dC dI cI cZ a A) A) args s 0 0 A) (F0 m 75 ls []) := by
  obtain ⟨hx, hb, hr, hml, hown, hts, hlocks⟩ := id C0
  rw [ok_X4_join_75] at hok
  rw [rs_X4_join_75] at hZ
  refine lv_goto (tgt := 112) hx hb dX4_join_75 (by decide) ?_
  exact W.vret hx hb hr (fun t ht hW => ⟨⟨S, rfl, hZ, by rw [ht]; exact hP, va_K.moved hW.alike hK, hD⟩, hS.F ht⟩) hS.2.2 dX4_join_112 hlocks
def rs_X4_join_85 (S : St)  : St := S
def ok_X4_join_85 (S : St)  : Prop := True
set_option maxHeartbeats 4000000 in
set_option maxRecDepth 100000 in
theorem w_X4_join_85 {p : Program} {l : Launch} {e : Env} {s : State} {m : MethodId} {args : Array Value} {below : List Frame} {meth : Method} {c : Code} {dC : Nat → ClassId} {dI : Nat → Nat → Nat} {cI cZ : ClassId} {a : Nat → Nat} {A : Nat → Prop} (C0 : Cx p s m args meth c RX4 cX4_join none 4 wsX4_join) (hK : va_K (dC, dI) vwCl (tI cI cZ) s) (hA : ∀ q, s.heap.size ≤ q → A q) (Z : St) (S : St)  (hok : ok_X4_join_85 S) (hZ : rs_X4_join_85 S = Z) (H : Heap) (locs : List Loc) (hP : va_P (dC, dI) vwCl (cW cI cZ a S) H) (hD : va_D A (cW cI cZ a S)) (hS : va_S A s.heap H locs) (ls : Array Slot) (hl : lv_has ls 4 []) : W p l e rm_X4_join s m args below meth c H locs 0 0 (MQ below (va_Qv (fun u : St => u = Z) (cWB dC dI cI cZ a A) A) args s 0 0 A) (F0 m 85 ls []) := by
  obtain ⟨hx, hb, hr, hml, hown, hts, hlocks⟩ := id C0
  rw [ok_X4_join_85] at hok
  rw [rs_X4_join_85] at hZ
  refine lv_goto (tgt := 112) hx hb dX4_join_85 (by decide) ?_
  exact W.vret hx hb hr (fun t ht hW => ⟨⟨S, rfl, hZ, by rw [ht]; exact hP, va_K.moved hW.alike hK, hD⟩, hS.F ht⟩) hS.2.2 dX4_join_112 hlocks
def rs_X4_join_95 (S : St)  : St := S
def ok_X4_join_95 (S : St)  : Prop := True
set_option maxHeartbeats 4000000 in
set_option maxRecDepth 100000 in
theorem w_X4_join_95 {p : Program} {l : Launch} {e : Env} {s : State} {m : MethodId} {args : Array Value} {below : List Frame} {meth : Method} {c : Code} {dC : Nat → ClassId} {dI : Nat → Nat → Nat} {cI cZ : ClassId} {a : Nat → Nat} {A : Nat → Prop} (C0 : Cx p s m args meth c RX4 cX4_join none 4 wsX4_join) (hK : va_K (dC, dI) vwCl (tI cI cZ) s) (hA : ∀ q, s.heap.size ≤ q → A q) (Z : St) (S : St)  (hok : ok_X4_join_95 S) (hZ : rs_X4_join_95 S = Z) (H : Heap) (locs : List Loc) (hP : va_P (dC, dI) vwCl (cW cI cZ a S) H) (hD : va_D A (cW cI cZ a S)) (hS : va_S A s.heap H locs) (ls : Array Slot) (hl : lv_has ls 4 []) : W p l e rm_X4_join s m args below meth c H locs 0 0 (MQ below (va_Qv (fun u : St => u = Z) (cWB dC dI cI cZ a A) A) args s 0 0 A) (F0 m 95 ls []) := by
  obtain ⟨hx, hb, hr, hml, hown, hts, hlocks⟩ := id C0
  rw [ok_X4_join_95] at hok
  rw [rs_X4_join_95] at hZ
  refine lv_goto (tgt := 112) hx hb dX4_join_95 (by decide) ?_
  exact W.vret hx hb hr (fun t ht hW => ⟨⟨S, rfl, hZ, by rw [ht]; exact hP, va_K.moved hW.alike hK, hD⟩, hS.F ht⟩) hS.2.2 dX4_join_112 hlocks
def rs_X4_join_109 (S : St) (z1 : Int32) : St := (rs_X4_put S z1)
def ok_X4_join_109 (S : St) (z1 : Int32) : Prop := ((ok_X4_put S z1) ∧ True)
set_option maxHeartbeats 4000000 in
set_option maxRecDepth 100000 in
theorem w_X4_join_109 {p : Program} {l : Launch} {e : Env} {s : State} {m : MethodId} {args : Array Value} {below : List Frame} {meth : Method} {c : Code} {dC : Nat → ClassId} {dI : Nat → Nat → Nat} {cI cZ : ClassId} {a : Nat → Nat} {A : Nat → Prop} (C0 : Cx p s m args meth c RX4 cX4_join none 4 wsX4_join) (hK : va_K (dC, dI) vwCl (tI cI cZ) s) (hA : ∀ q, s.heap.size ≤ q → A q) (Z : St) (S : St) (z1 : Int32) (hok : ok_X4_join_109 S z1) (hZ : rs_X4_join_109 S z1 = Z) (H : Heap) (locs : List Loc) (hP : va_P (dC, dI) vwCl (cW cI cZ a S) H) (hD : va_D A (cW cI cZ a S)) (hS : va_S A s.heap H locs) (ls : Array Slot) (hl : lv_has ls 4 []) : W p l e rm_X4_join s m args below meth c H locs 0 0 (MQ below (va_Qv (fun u : St => u = Z) (cWB dC dI cI cZ a A) A) args s 0 0 A) (F0 m 109 ls [.int z1, .ref (a 26)]) := by
  obtain ⟨hx, hb, hr, hml, hown, hts, hlocks⟩ := id C0
  rw [ok_X4_join_109] at hok
  rw [rs_X4_join_109] at hZ
  obtain ⟨k_1, hok⟩ := hok
  have hFc := wFw (w := cW cI cZ a S) hD hS hA
  refine va_callv (va_runV (As := [.int z1]) (rest := []) ⟨hx, hb, hml, hown, hts⟩ (c_X4_put l dC dI cI cZ a H.size S z1 k_1) (cwV 1 hts gX4_join_X4_put rfl rfl rfl (by decide +kernel) ⟨Nat.le_of_ble_eq_true rfl, Nat.le_of_ble_eq_true rfl⟩) ⟨wBl, va_recv hK hP (ci := 3) (q0 := 26) rfl rfl, fun U hU hW => ⟨rfl, by rw [hU], by rw [hU]; exact hP, va_K.moved hW.alike hK, hD.weaken (fun _ _ _ _ => trivial)⟩⟩ rfl rfl hl.1 rfl (lv_room (Nat.le_of_ble_eq_true rfl)) dX4_join_109 ⟨Nat.zero_le _, Nat.zero_le _⟩) hS (fun q _ h => hFc q h) hFc (fun u t H1 locs ht hvm hw hB hz1 hk1 hS => ?_)
  obtain ⟨hP, hD⟩ := wJn ht hFc hB.1 hB.2.2
  rw [hw] at hP hD
  generalize H1 = H at hP hS ⊢
  exact W.vret hx hb hr (fun t ht hW => ⟨⟨(rs_X4_put S z1), rfl, hZ, by rw [ht]; exact hP, va_K.moved hW.alike hK, hD⟩, hS.F ht⟩) hS.2.2 dX4_join_112 hlocks
def rs_X4_join_5 (S : St) (x1 : Int32) (z0 : Int32) : St := (if z0 = 0 then S else (if x1 = 4 then (rs_X4_join_75 (rs_X4_put (sI S 1042 ((S.1 1042) - 2)) (((S.2 27) ((S.1 1042) - 2).toNatClampNeg) + ((S.2 27) (((S.1 1042) - 2) + 1).toNatClampNeg)))) else (if x1 = 5 then (rs_X4_join_85 (rs_X4_put (sI S 1042 ((S.1 1042) - 2)) (((S.2 27) ((S.1 1042) - 2).toNatClampNeg) - ((S.2 27) (((S.1 1042) - 2) + 1).toNatClampNeg)))) else (if x1 = 6 then (rs_X4_join_95 (rs_X4_put (sI S 1042 ((S.1 1042) - 2)) (((S.2 27) ((S.1 1042) - 2).toNatClampNeg) * ((S.2 27) (((S.1 1042) - 2) + 1).toNatClampNeg)))) else (if ((S.2 27) (((S.1 1042) - 2) + 1).toNatClampNeg) ≤ ((S.2 27) ((S.1 1042) - 2).toNatClampNeg) then (rs_X4_join_109 (sI S 1042 ((S.1 1042) - 2)) 0) else (rs_X4_join_109 (sI S 1042 ((S.1 1042) - 2)) 1))))))
def ok_X4_join_5 (S : St) (x1 : Int32) (z0 : Int32) : Prop := (if z0 = 0 then True else ((vp_in ((S.1 1042) - 2) 8) ∧ ((vp_in (((S.1 1042) - 2) + 1) 8) ∧ (if x1 = 4 then ((ok_X4_put (sI S 1042 ((S.1 1042) - 2)) (((S.2 27) ((S.1 1042) - 2).toNatClampNeg) + ((S.2 27) (((S.1 1042) - 2) + 1).toNatClampNeg))) ∧ ok_X4_join_75 (rs_X4_put (sI S 1042 ((S.1 1042) - 2)) (((S.2 27) ((S.1 1042) - 2).toNatClampNeg) + ((S.2 27) (((S.1 1042) - 2) + 1).toNatClampNeg)))) else (if x1 = 5 then ((ok_X4_put (sI S 1042 ((S.1 1042) - 2)) (((S.2 27) ((S.1 1042) - 2).toNatClampNeg) - ((S.2 27) (((S.1 1042) - 2) + 1).toNatClampNeg))) ∧ ok_X4_join_85 (rs_X4_put (sI S 1042 ((S.1 1042) - 2)) (((S.2 27) ((S.1 1042) - 2).toNatClampNeg) - ((S.2 27) (((S.1 1042) - 2) + 1).toNatClampNeg)))) else (if x1 = 6 then ((ok_X4_put (sI S 1042 ((S.1 1042) - 2)) (((S.2 27) ((S.1 1042) - 2).toNatClampNeg) * ((S.2 27) (((S.1 1042) - 2) + 1).toNatClampNeg))) ∧ ok_X4_join_95 (rs_X4_put (sI S 1042 ((S.1 1042) - 2)) (((S.2 27) ((S.1 1042) - 2).toNatClampNeg) * ((S.2 27) (((S.1 1042) - 2) + 1).toNatClampNeg)))) else (if ((S.2 27) (((S.1 1042) - 2) + 1).toNatClampNeg) ≤ ((S.2 27) ((S.1 1042) - 2).toNatClampNeg) then ok_X4_join_109 (sI S 1042 ((S.1 1042) - 2)) 0 else ok_X4_join_109 (sI S 1042 ((S.1 1042) - 2)) 1)))))))
set_option maxHeartbeats 4000000 in
set_option maxRecDepth 100000 in
theorem w_X4_join_5 {p : Program} {l : Launch} {e : Env} {s : State} {m : MethodId} {args : Array Value} {below : List Frame} {meth : Method} {c : Code} {dC : Nat → ClassId} {dI : Nat → Nat → Nat} {cI cZ : ClassId} {a : Nat → Nat} {A : Nat → Prop} (C0 : Cx p s m args meth c RX4 cX4_join none 4 wsX4_join) (hK : va_K (dC, dI) vwCl (tI cI cZ) s) (hA : ∀ q, s.heap.size ≤ q → A q) (Z : St) (S : St) (x1 : Int32) (z0 : Int32) (hok : ok_X4_join_5 S x1 z0) (hZ : rs_X4_join_5 S x1 z0 = Z) (H : Heap) (locs : List Loc) (hP : va_P (dC, dI) vwCl (cW cI cZ a S) H) (hD : va_D A (cW cI cZ a S)) (hS : va_S A s.heap H locs) (ls : Array Slot) (hl : lv_has ls 4 [(0, .ref (a 26)), (1, .int x1)]) : W p l e rm_X4_join s m args below meth c H locs 0 0 (MQ below (va_Qv (fun u : St => u = Z) (cWB dC dI cI cZ a A) A) args s 0 0 A) (F0 m 5 ls [.int z0]) := by
  obtain ⟨hx, hb, hr, hml, hown, hts, hlocks⟩ := id C0
  rw [ok_X4_join_5] at hok
  rw [rs_X4_join_5] at hZ
  refine lv_if_ne (tgt := 9) hx hb dX4_join_5 (by decide) (fun c_1 => ?_) (fun c_1 => ?_)
  · have hok := okF hok c_1
    have hZ := rsF hZ c_1
    refine lv_aload_n hx hb dX4_join_9 rfl (lv_at hl 0 rfl) ?_
    refine lv_dup hx hb dX4_join_10 rfl ?_
    refine va_get (D := (dC, dI)) (ci := 3) (v := .int (S.1 1042)) (C := RX4) (T := TX4) (N := 6) hx hb hts iX4_join_X4 hown hK hP 26 rfl rfl 2 (by decide) (hts (.fieldLink RX4 47 "RiskHouse$Machine" "depth" "I") (by decide +kernel)) (fun _ h9 => h9) rfl dX4_join_11 ?_
    refine lv_iconst (v := 2) hx hb dX4_join_14 (by decide) ?_
    refine lv_isub hx hb dX4_join_15 ?_
    refine va_put (D := (dC, dI)) (ci := 3) (v := .int ((S.1 1042) - 2)) (ty := .int) (C := RX4) (T := TX4) (N := 6) hx hb hts iX4_join_X4 tyX4 tyX4_ok nmX4 hown hK hP hD hS 26 rfl rfl 2 (by decide) (hts (.fieldLink RX4 47 "RiskHouse$Machine" "depth" "I") (by decide +kernel)) (fun _ h9 => h9) rfl (by decide +kernel) rfl rfl (Nat.le_of_ble_eq_true rfl) dX4_join_16 (fun H locs hP hD hS => ?_)
    have hP : va_P (dC, dI) vwCl (cW cI cZ a (sI S 1042 ((S.1 1042) - 2))) H := hP
    have hD : va_D A (cW cI cZ a (sI S 1042 ((S.1 1042) - 2))) := hD
    refine lv_aload_n hx hb dX4_join_19 rfl (lv_at hl 0 rfl) ?_
    refine va_get (D := (dC, dI)) (ci := 3) (v := .ref (a 27)) (C := RX4) (T := TX4) (N := 6) hx hb hts iX4_join_X4 hown hK hP 26 rfl rfl 1 (by decide) (hts (.fieldLink RX4 9 "RiskHouse$Machine" "stack" "[I") (by decide +kernel)) (fun _ h9 => h9) rfl dX4_join_20 ?_
    refine lv_aload_n hx hb dX4_join_23 rfl (lv_at hl 0 rfl) ?_
    refine va_get (D := (dC, dI)) (ci := 3) (v := .int ((S.1 1042) - 2)) (C := RX4) (T := TX4) (N := 6) hx hb hts iX4_join_X4 hown hK hP 26 rfl rfl 2 (by decide) (hts (.fieldLink RX4 47 "RiskHouse$Machine" "depth" "I") (by decide +kernel)) (fun _ h9 => h9) rfl dX4_join_24 ?_
    obtain ⟨h_2, hok⟩ := hok
    refine va_iald (f := (S.2 27)) hx hb hK hP 27 0 rfl rfl h_2 dX4_join_27 ?_
    refine lv_istore_n (lv' := [(2, .int ((S.2 27) ((S.1 1042) - 2).toNatClampNeg)), (0, .ref (a 26)), (1, .int x1)]) hx hb dX4_join_28 rfl hl (by decide) rfl (fun ls hl => ?_)
    refine lv_aload_n hx hb dX4_join_29 rfl (lv_at hl 1 rfl) ?_
    refine va_get (D := (dC, dI)) (ci := 3) (v := .ref (a 27)) (C := RX4) (T := TX4) (N := 6) hx hb hts iX4_join_X4 hown hK hP 26 rfl rfl 1 (by decide) (hts (.fieldLink RX4 9 "RiskHouse$Machine" "stack" "[I") (by decide +kernel)) (fun _ h9 => h9) rfl dX4_join_30 ?_
    refine lv_aload_n hx hb dX4_join_33 rfl (lv_at hl 1 rfl) ?_
    refine va_get (D := (dC, dI)) (ci := 3) (v := .int ((S.1 1042) - 2)) (C := RX4) (T := TX4) (N := 6) hx hb hts iX4_join_X4 hown hK hP 26 rfl rfl 2 (by decide) (hts (.fieldLink RX4 47 "RiskHouse$Machine" "depth" "I") (by decide +kernel)) (fun _ h9 => h9) rfl dX4_join_34 ?_
    refine lv_iconst (v := 1) hx hb dX4_join_37 (by decide) ?_
    refine lv_iadd hx hb dX4_join_38 ?_
    obtain ⟨h_3, hok⟩ := hok
    refine va_iald (f := (S.2 27)) hx hb hK hP 27 0 rfl rfl h_3 dX4_join_39 ?_
    refine lv_istore_n (lv' := [(3, .int ((S.2 27) (((S.1 1042) - 2) + 1).toNatClampNeg)), (2, .int ((S.2 27) ((S.1 1042) - 2).toNatClampNeg)), (0, .ref (a 26)), (1, .int x1)]) hx hb dX4_join_40 rfl hl (by decide) rfl (fun ls hl => ?_)
    refine lv_iload_n hx hb dX4_join_41 rfl (lv_at hl 3 rfl) ?_
    by_cases c_8_k4 : x1 = 4
    · have hok := okT hok c_8_k4
      have hZ := rsT hZ c_8_k4
      refine lv_tableIn (off := 26) (tgt := 68) hx hb dX4_join_42 (by rw [c_8_k4]; decide) (by rw [c_8_k4]; decide) (by rw [c_8_k4]; rfl) (by decide) ?_
      refine lv_aload_n hx hb dX4_join_68 rfl (lv_at hl 2 rfl) ?_
      refine lv_iload_n hx hb dX4_join_69 rfl (lv_at hl 1 rfl) ?_
      refine lv_iload_n hx hb dX4_join_70 rfl (lv_at hl 0 rfl) ?_
      refine lv_iadd hx hb dX4_join_71 ?_
      obtain ⟨k_4, hok⟩ := hok
      have hFc := wFw (w := cW cI cZ a (sI S 1042 ((S.1 1042) - 2))) hD hS hA
      refine va_callv (va_runV (As := [.int (((S.2 27) ((S.1 1042) - 2).toNatClampNeg) + ((S.2 27) (((S.1 1042) - 2) + 1).toNatClampNeg))]) (rest := []) ⟨hx, hb, hml, hown, hts⟩ (c_X4_put l dC dI cI cZ a H.size (sI S 1042 ((S.1 1042) - 2)) (((S.2 27) ((S.1 1042) - 2).toNatClampNeg) + ((S.2 27) (((S.1 1042) - 2) + 1).toNatClampNeg)) k_4) (cwV 1 hts gX4_join_X4_put rfl rfl rfl (by decide +kernel) ⟨Nat.le_of_ble_eq_true rfl, Nat.le_of_ble_eq_true rfl⟩) ⟨wBl, va_recv hK hP (ci := 3) (q0 := 26) rfl rfl, fun U hU hW => ⟨rfl, by rw [hU], by rw [hU]; exact hP, va_K.moved hW.alike hK, hD.weaken (fun _ _ _ _ => trivial)⟩⟩ rfl rfl hl.1 rfl (lv_room (Nat.le_of_ble_eq_true rfl)) dX4_join_72 ⟨Nat.zero_le _, Nat.zero_le _⟩) hS (fun q _ h => hFc q h) hFc (fun u t H1 locs ht hvm hw hB hz1 hk1 hS => ?_)
      obtain ⟨hP, hD⟩ := wJn ht hFc hB.1 hB.2.2
      rw [hw] at hP hD
      generalize H1 = H at hP hS ⊢
      exact w_X4_join_75 C0 hK hA Z (rs_X4_put (sI S 1042 ((S.1 1042) - 2)) (((S.2 27) ((S.1 1042) - 2).toNatClampNeg) + ((S.2 27) (((S.1 1042) - 2) + 1).toNatClampNeg))) hok hZ _ _ hP hD hS _ (lv_sub hl [] rfl)
    · have hok := okF hok c_8_k4
      have hZ := rsF hZ c_8_k4
      by_cases c_8_k5 : x1 = 5
      · have hok := okT hok c_8_k5
        have hZ := rsT hZ c_8_k5
        refine lv_tableIn (off := 36) (tgt := 78) hx hb dX4_join_42 (by rw [c_8_k5]; decide) (by rw [c_8_k5]; decide) (by rw [c_8_k5]; rfl) (by decide) ?_
        refine lv_aload_n hx hb dX4_join_78 rfl (lv_at hl 2 rfl) ?_
        refine lv_iload_n hx hb dX4_join_79 rfl (lv_at hl 1 rfl) ?_
        refine lv_iload_n hx hb dX4_join_80 rfl (lv_at hl 0 rfl) ?_
        refine lv_isub hx hb dX4_join_81 ?_
        obtain ⟨k_5, hok⟩ := hok
        have hFc := wFw (w := cW cI cZ a (sI S 1042 ((S.1 1042) - 2))) hD hS hA
        refine va_callv (va_runV (As := [.int (((S.2 27) ((S.1 1042) - 2).toNatClampNeg) - ((S.2 27) (((S.1 1042) - 2) + 1).toNatClampNeg))]) (rest := []) ⟨hx, hb, hml, hown, hts⟩ (c_X4_put l dC dI cI cZ a H.size (sI S 1042 ((S.1 1042) - 2)) (((S.2 27) ((S.1 1042) - 2).toNatClampNeg) - ((S.2 27) (((S.1 1042) - 2) + 1).toNatClampNeg)) k_5) (cwV 1 hts gX4_join_X4_put rfl rfl rfl (by decide +kernel) ⟨Nat.le_of_ble_eq_true rfl, Nat.le_of_ble_eq_true rfl⟩) ⟨wBl, va_recv hK hP (ci := 3) (q0 := 26) rfl rfl, fun U hU hW => ⟨rfl, by rw [hU], by rw [hU]; exact hP, va_K.moved hW.alike hK, hD.weaken (fun _ _ _ _ => trivial)⟩⟩ rfl rfl hl.1 rfl (lv_room (Nat.le_of_ble_eq_true rfl)) dX4_join_82 ⟨Nat.zero_le _, Nat.zero_le _⟩) hS (fun q _ h => hFc q h) hFc (fun u t H1 locs ht hvm hw hB hz1 hk1 hS => ?_)
        obtain ⟨hP, hD⟩ := wJn ht hFc hB.1 hB.2.2
        rw [hw] at hP hD
        generalize H1 = H at hP hS ⊢
        exact w_X4_join_85 C0 hK hA Z (rs_X4_put (sI S 1042 ((S.1 1042) - 2)) (((S.2 27) ((S.1 1042) - 2).toNatClampNeg) - ((S.2 27) (((S.1 1042) - 2) + 1).toNatClampNeg))) hok hZ _ _ hP hD hS _ (lv_sub hl [] rfl)
      · have hok := okF hok c_8_k5
        have hZ := rsF hZ c_8_k5
        by_cases c_8_k6 : x1 = 6
        · have hok := okT hok c_8_k6
          have hZ := rsT hZ c_8_k6
          refine lv_tableIn (off := 46) (tgt := 88) hx hb dX4_join_42 (by rw [c_8_k6]; decide) (by rw [c_8_k6]; decide) (by rw [c_8_k6]; rfl) (by decide) ?_
          refine lv_aload_n hx hb dX4_join_88 rfl (lv_at hl 2 rfl) ?_
          refine lv_iload_n hx hb dX4_join_89 rfl (lv_at hl 1 rfl) ?_
          refine lv_iload_n hx hb dX4_join_90 rfl (lv_at hl 0 rfl) ?_
          refine lv_imul hx hb dX4_join_91 ?_
          obtain ⟨k_6, hok⟩ := hok
          have hFc := wFw (w := cW cI cZ a (sI S 1042 ((S.1 1042) - 2))) hD hS hA
          refine va_callv (va_runV (As := [.int (((S.2 27) ((S.1 1042) - 2).toNatClampNeg) * ((S.2 27) (((S.1 1042) - 2) + 1).toNatClampNeg))]) (rest := []) ⟨hx, hb, hml, hown, hts⟩ (c_X4_put l dC dI cI cZ a H.size (sI S 1042 ((S.1 1042) - 2)) (((S.2 27) ((S.1 1042) - 2).toNatClampNeg) * ((S.2 27) (((S.1 1042) - 2) + 1).toNatClampNeg)) k_6) (cwV 1 hts gX4_join_X4_put rfl rfl rfl (by decide +kernel) ⟨Nat.le_of_ble_eq_true rfl, Nat.le_of_ble_eq_true rfl⟩) ⟨wBl, va_recv hK hP (ci := 3) (q0 := 26) rfl rfl, fun U hU hW => ⟨rfl, by rw [hU], by rw [hU]; exact hP, va_K.moved hW.alike hK, hD.weaken (fun _ _ _ _ => trivial)⟩⟩ rfl rfl hl.1 rfl (lv_room (Nat.le_of_ble_eq_true rfl)) dX4_join_92 ⟨Nat.zero_le _, Nat.zero_le _⟩) hS (fun q _ h => hFc q h) hFc (fun u t H1 locs ht hvm hw hB hz1 hk1 hS => ?_)
          obtain ⟨hP, hD⟩ := wJn ht hFc hB.1 hB.2.2
          rw [hw] at hP hD
          generalize H1 = H at hP hS ⊢
          exact w_X4_join_95 C0 hK hA Z (rs_X4_put (sI S 1042 ((S.1 1042) - 2)) (((S.2 27) ((S.1 1042) - 2).toNatClampNeg) * ((S.2 27) (((S.1 1042) - 2) + 1).toNatClampNeg))) hok hZ _ _ hP hD hS _ (lv_sub hl [] rfl)
        · have hok := okF hok c_8_k6
          have hZ := rsF hZ c_8_k6
          refine lv_tableOut (tgt := 98) hx hb dX4_join_42 (by have q0 := lv_neT (a := 4) c_8_k4 (by decide); have q1 := lv_neT (a := 5) c_8_k5 (by decide); have q2 := lv_neT (a := 6) c_8_k6 (by decide); omega) (by decide) ?_
          refine lv_aload_n hx hb dX4_join_98 rfl (lv_at hl 2 rfl) ?_
          refine lv_iload_n hx hb dX4_join_99 rfl (lv_at hl 1 rfl) ?_
          refine lv_iload_n hx hb dX4_join_100 rfl (lv_at hl 0 rfl) ?_
          refine lv_icmp_ge (tgt := 108) hx hb dX4_join_101 (by decide) (fun c_7 => ?_) (fun c_7 => ?_)
          · have hok := okT hok c_7
            have hZ := rsT hZ c_7
            refine lv_iconst (v := 0) hx hb dX4_join_108 (by decide) ?_
            exact w_X4_join_109 C0 hK hA Z (sI S 1042 ((S.1 1042) - 2)) 0 hok hZ _ _ hP hD hS _ (lv_sub hl [] rfl)
          · have hok := okF hok c_7
            have hZ := rsF hZ c_7
            refine lv_iconst (v := 1) hx hb dX4_join_104 (by decide) ?_
            refine lv_goto (tgt := 109) hx hb dX4_join_105 (by decide) ?_
            exact w_X4_join_109 C0 hK hA Z (sI S 1042 ((S.1 1042) - 2)) 1 hok hZ _ _ hP hD hS _ (lv_sub hl [] rfl)
  · have hok := okT hok c_1
    have hZ := rsT hZ c_1
    exact W.vret hx hb hr (fun t ht hW => ⟨⟨S, rfl, hZ, by rw [ht]; exact hP, va_K.moved hW.alike hK, hD⟩, hS.F ht⟩) hS.2.2 dX4_join_8 hlocks
def rs_X4_join (S : St) (x1 : Int32) : St := (rs_X4_join_5 (rs_X4_canTake S 2).2 x1 ((rs_X4_canTake S 2).1))
def ok_X4_join (S : St) (x1 : Int32) : Prop := ((ok_X4_canTake S 2) ∧ ok_X4_join_5 (rs_X4_canTake S 2).2 x1 ((rs_X4_canTake S 2).1))
set_option maxHeartbeats 4000000 in
set_option maxRecDepth 100000 in
theorem w_X4_join {p : Program} {l : Launch} {e : Env} {s : State} {m : MethodId} {args : Array Value} {below : List Frame} {meth : Method} {c : Code} {dC : Nat → ClassId} {dI : Nat → Nat → Nat} {cI cZ : ClassId} {a : Nat → Nat} {A : Nat → Prop} (C0 : Cx p s m args meth c RX4 cX4_join none 4 wsX4_join) (hK : va_K (dC, dI) vwCl (tI cI cZ) s) (hA : ∀ q, s.heap.size ≤ q → A q) (Z : St) (S : St) (x1 : Int32) (hok : ok_X4_join S x1) (hZ : rs_X4_join S x1 = Z) (H : Heap) (locs : List Loc) (hP : va_P (dC, dI) vwCl (cW cI cZ a S) H) (hD : va_D A (cW cI cZ a S)) (hS : va_S A s.heap H locs) (ls : Array Slot) (hl : lv_has ls 4 [(0, .ref (a 26)), (1, .int x1)]) : W p l e rm_X4_join s m args below meth c H locs 0 0 (MQ below (va_Qv (fun u : St => u = Z) (cWB dC dI cI cZ a A) A) args s 0 0 A) (F0 m 0 ls []) := by
  obtain ⟨hx, hb, hr, hml, hown, hts, hlocks⟩ := id C0
  rw [ok_X4_join] at hok
  rw [rs_X4_join] at hZ
  refine lv_aload_n hx hb dX4_join_0 rfl (lv_at hl 0 rfl) ?_
  refine lv_iconst (v := 2) hx hb dX4_join_1 (by decide) ?_
  obtain ⟨k_1, hok⟩ := hok
  have hFc := wFw (w := cW cI cZ a S) hD hS hA
  refine va_calli (va_runV (As := [.int 2]) (rest := []) ⟨hx, hb, hml, hown, hts⟩ (c_X4_canTake l dC dI cI cZ a H.size S 2 k_1) (cwV 1 hts gX4_join_X4_canTake rfl rfl rfl (by decide +kernel) ⟨Nat.le_of_ble_eq_true rfl, Nat.le_of_ble_eq_true rfl⟩) ⟨wBl, va_recv hK hP (ci := 3) (q0 := 26) rfl rfl, fun U hU hW => ⟨rfl, by rw [hU], by rw [hU]; exact hP, va_K.moved hW.alike hK, hD.weaken (fun _ _ _ _ => trivial)⟩⟩ rfl rfl hl.1 rfl (lv_room (Nat.le_of_ble_eq_true rfl)) dX4_join_2 ⟨Nat.zero_le _, Nat.zero_le _⟩) hS (fun q _ h => hFc q h) hFc (fun r u t H1 locs ht hvm hw hB hz1 hk1 hS => ?_)
  obtain ⟨hP, hD⟩ := wJn ht hFc hB.1 hB.2.2
  have e1 : r = (rs_X4_canTake S 2).1 := congrArg Prod.fst hw
  have e2 : u = (rs_X4_canTake S 2).2 := congrArg Prod.snd hw
  rw [e1]
  rw [e2] at hP hD
  generalize H1 = H at hP hS ⊢
  exact w_X4_join_5 C0 hK hA Z (rs_X4_canTake S 2).2 x1 ((rs_X4_canTake S 2).1) hok hZ _ _ hP hD hS _ (lv_sub hl [0, 1] rfl)
set_option maxHeartbeats 4000000 in
set_option maxRecDepth 100000 in
theorem c_X4_join (l : Launch) (dC : Nat → ClassId) (dI : Nat → Nat → Nat) (cI cZ : ClassId) (a : Nat → Nat) (sz : Nat) (S : St) (x1 : Int32) (hok : ok_X4_join S x1) : Met l yX4_join wsX4_join rm_X4_join (va_Pc [.ref (a 26), .int x1] (cWP dC dI cI cZ a sz S)) (va_Qv (fun u : St => u = rs_X4_join S x1) (cWB dC dI cI cZ a (va_A (cW cI cZ a S) sz)) (va_A (cW cI cZ a S) sz)) 0 0 (va_A (cW cI cZ a S) sz) := by
  refine Met.ofW (cc := cX4_join) (maxL := 4) (ret := none) (by decide) rfl ?_
  intro p e s m args below meth c s₁ B hml hv
  obtain ⟨rfl, hsz, hP, hK, hD0⟩ := hv
  subst hsz
  have hD := hD0.self (sz := s.heap.size)
  have hl := lv_entry ([.ref (a 26), .int x1]) (n := 4) (Nat.le_of_ble_eq_true rfl)
  rw [lg_entry_eq]
  generalize (lg_sl ([.ref (a 26), .int x1]) ++ List.replicate (4 - (lg_sl ([.ref (a 26), .int x1])).length) Slot.unset).toArray = ls at hl ⊢
  have hl : lv_has ls 4 [(0, .ref (a 26)), (1, .int x1)] := hl
  exact w_X4_join ⟨B.exec, B.bytes, B.returns, hml, findClass_of_methodNamed B.named, atoms_spec (ws := wsX4_join) B.pre, B.notSynchronized⟩ hK (fun q h => Or.inr h) _ S x1 hok rfl _ _ hP hD va_S.rf ls hl
abbrev rm_X4_divide : Room := { frames := 1, cells := 0, slots := 0, locals := 21 }
theorem iX4_divide_X4 : ∀ w ∈ wsX40, w ∈ wsX4_divide := by decide +kernel
def rs_X4_divide_65 (S : St) (z1 : Int32) : St := (rs_X4_put S z1)
def ok_X4_divide_65 (S : St) (z1 : Int32) : Prop := ((ok_X4_put S z1) ∧ True)
set_option maxHeartbeats 4000000 in
set_option maxRecDepth 100000 in
theorem w_X4_divide_65 {p : Program} {l : Launch} {e : Env} {s : State} {m : MethodId} {args : Array Value} {below : List Frame} {meth : Method} {c : Code} {dC : Nat → ClassId} {dI : Nat → Nat → Nat} {cI cZ : ClassId} {a : Nat → Nat} {A : Nat → Prop} (C0 : Cx p s m args meth c RX4 cX4_divide none 4 wsX4_divide) (hK : va_K (dC, dI) vwCl (tI cI cZ) s) (hA : ∀ q, s.heap.size ≤ q → A q) (Z : St) (S : St) (z1 : Int32) (hok : ok_X4_divide_65 S z1) (hZ : rs_X4_divide_65 S z1 = Z) (H : Heap) (locs : List Loc) (hP : va_P (dC, dI) vwCl (cW cI cZ a S) H) (hD : va_D A (cW cI cZ a S)) (hS : va_S A s.heap H locs) (ls : Array Slot) (hl : lv_has ls 4 []) : W p l e rm_X4_divide s m args below meth c H locs 0 0 (MQ below (va_Qv (fun u : St => u = Z) (cWB dC dI cI cZ a A) A) args s 0 0 A) (F0 m 65 ls [.int z1, .ref (a 26)]) := by
  obtain ⟨hx, hb, hr, hml, hown, hts, hlocks⟩ := id C0
  rw [ok_X4_divide_65] at hok
  rw [rs_X4_divide_65] at hZ
  obtain ⟨k_1, hok⟩ := hok
  have hFc := wFw (w := cW cI cZ a S) hD hS hA
  refine va_callv (va_runV (As := [.int z1]) (rest := []) ⟨hx, hb, hml, hown, hts⟩ (c_X4_put l dC dI cI cZ a H.size S z1 k_1) (cwV 1 hts gX4_divide_X4_put rfl rfl rfl (by decide +kernel) ⟨Nat.le_of_ble_eq_true rfl, Nat.le_of_ble_eq_true rfl⟩) ⟨wBl, va_recv hK hP (ci := 3) (q0 := 26) rfl rfl, fun U hU hW => ⟨rfl, by rw [hU], by rw [hU]; exact hP, va_K.moved hW.alike hK, hD.weaken (fun _ _ _ _ => trivial)⟩⟩ rfl rfl hl.1 rfl (lv_room (Nat.le_of_ble_eq_true rfl)) dX4_divide_65 ⟨Nat.zero_le _, Nat.zero_le _⟩) hS (fun q _ h => hFc q h) hFc (fun u t H1 locs ht hvm hw hB hz1 hk1 hS => ?_)
  obtain ⟨hP, hD⟩ := wJn ht hFc hB.1 hB.2.2
  rw [hw] at hP hD
  generalize H1 = H at hP hS ⊢
  exact W.vret hx hb hr (fun t ht hW => ⟨⟨(rs_X4_put S z1), rfl, hZ, by rw [ht]; exact hP, va_K.moved hW.alike hK, hD⟩, hS.F ht⟩) hS.2.2 dX4_divide_68 hlocks
def rs_X4_divide_19 (S : St) (x1 : Int32) : St := (if ((S.2 27) ((S.1 1042) + 1).toNatClampNeg) = 0 then (sI S 1045 2) else (if x1 = 0 then (rs_X4_divide_65 S (((S.2 27) (S.1 1042).toNatClampNeg) / ((S.2 27) ((S.1 1042) + 1).toNatClampNeg))) else (rs_X4_divide_65 S (((S.2 27) (S.1 1042).toNatClampNeg) - ((S.2 27) (S.1 1042).toNatClampNeg) / ((S.2 27) ((S.1 1042) + 1).toNatClampNeg) * ((S.2 27) ((S.1 1042) + 1).toNatClampNeg)))))
def ok_X4_divide_19 (S : St) (x1 : Int32) : Prop := ((vp_in (S.1 1042) 8) ∧ ((vp_in ((S.1 1042) + 1) 8) ∧ (if ((S.2 27) ((S.1 1042) + 1).toNatClampNeg) = 0 then True else (if x1 = 0 then ((¬ ((S.2 27) ((S.1 1042) + 1).toNatClampNeg) = 0) ∧ ok_X4_divide_65 S (((S.2 27) (S.1 1042).toNatClampNeg) / ((S.2 27) ((S.1 1042) + 1).toNatClampNeg))) else ((¬ ((S.2 27) ((S.1 1042) + 1).toNatClampNeg) = 0) ∧ ok_X4_divide_65 S (((S.2 27) (S.1 1042).toNatClampNeg) - ((S.2 27) (S.1 1042).toNatClampNeg) / ((S.2 27) ((S.1 1042) + 1).toNatClampNeg) * ((S.2 27) ((S.1 1042) + 1).toNatClampNeg)))))))
set_option maxHeartbeats 4000000 in
set_option maxRecDepth 100000 in
theorem w_X4_divide_19 {p : Program} {l : Launch} {e : Env} {s : State} {m : MethodId} {args : Array Value} {below : List Frame} {meth : Method} {c : Code} {dC : Nat → ClassId} {dI : Nat → Nat → Nat} {cI cZ : ClassId} {a : Nat → Nat} {A : Nat → Prop} (C0 : Cx p s m args meth c RX4 cX4_divide none 4 wsX4_divide) (hK : va_K (dC, dI) vwCl (tI cI cZ) s) (hA : ∀ q, s.heap.size ≤ q → A q) (Z : St) (S : St) (x1 : Int32) (hok : ok_X4_divide_19 S x1) (hZ : rs_X4_divide_19 S x1 = Z) (H : Heap) (locs : List Loc) (hP : va_P (dC, dI) vwCl (cW cI cZ a S) H) (hD : va_D A (cW cI cZ a S)) (hS : va_S A s.heap H locs) (ls : Array Slot) (hl : lv_has ls 4 [(0, .ref (a 26)), (1, .int x1)]) : W p l e rm_X4_divide s m args below meth c H locs 0 0 (MQ below (va_Qv (fun u : St => u = Z) (cWB dC dI cI cZ a A) A) args s 0 0 A) (F0 m 19 ls []) := by
  obtain ⟨hx, hb, hr, hml, hown, hts, hlocks⟩ := id C0
  rw [ok_X4_divide_19] at hok
  rw [rs_X4_divide_19] at hZ
  refine lv_aload_n hx hb dX4_divide_19 rfl (lv_at hl 0 rfl) ?_
  refine va_get (D := (dC, dI)) (ci := 3) (v := .ref (a 27)) (C := RX4) (T := TX4) (N := 6) hx hb hts iX4_divide_X4 hown hK hP 26 rfl rfl 1 (by decide) (hts (.fieldLink RX4 9 "RiskHouse$Machine" "stack" "[I") (by decide +kernel)) (fun _ h9 => h9) rfl dX4_divide_20 ?_
  refine lv_aload_n hx hb dX4_divide_23 rfl (lv_at hl 0 rfl) ?_
  refine va_get (D := (dC, dI)) (ci := 3) (v := .int (S.1 1042)) (C := RX4) (T := TX4) (N := 6) hx hb hts iX4_divide_X4 hown hK hP 26 rfl rfl 2 (by decide) (hts (.fieldLink RX4 47 "RiskHouse$Machine" "depth" "I") (by decide +kernel)) (fun _ h9 => h9) rfl dX4_divide_24 ?_
  obtain ⟨h_1, hok⟩ := hok
  refine va_iald (f := (S.2 27)) hx hb hK hP 27 0 rfl rfl h_1 dX4_divide_27 ?_
  refine lv_istore_n (lv' := [(2, .int ((S.2 27) (S.1 1042).toNatClampNeg)), (0, .ref (a 26)), (1, .int x1)]) hx hb dX4_divide_28 rfl hl (by decide) rfl (fun ls hl => ?_)
  refine lv_aload_n hx hb dX4_divide_29 rfl (lv_at hl 1 rfl) ?_
  refine va_get (D := (dC, dI)) (ci := 3) (v := .ref (a 27)) (C := RX4) (T := TX4) (N := 6) hx hb hts iX4_divide_X4 hown hK hP 26 rfl rfl 1 (by decide) (hts (.fieldLink RX4 9 "RiskHouse$Machine" "stack" "[I") (by decide +kernel)) (fun _ h9 => h9) rfl dX4_divide_30 ?_
  refine lv_aload_n hx hb dX4_divide_33 rfl (lv_at hl 1 rfl) ?_
  refine va_get (D := (dC, dI)) (ci := 3) (v := .int (S.1 1042)) (C := RX4) (T := TX4) (N := 6) hx hb hts iX4_divide_X4 hown hK hP 26 rfl rfl 2 (by decide) (hts (.fieldLink RX4 47 "RiskHouse$Machine" "depth" "I") (by decide +kernel)) (fun _ h9 => h9) rfl dX4_divide_34 ?_
  refine lv_iconst (v := 1) hx hb dX4_divide_37 (by decide) ?_
  refine lv_iadd hx hb dX4_divide_38 ?_
  obtain ⟨h_2, hok⟩ := hok
  refine va_iald (f := (S.2 27)) hx hb hK hP 27 0 rfl rfl h_2 dX4_divide_39 ?_
  refine lv_istore_n (lv' := [(3, .int ((S.2 27) ((S.1 1042) + 1).toNatClampNeg)), (2, .int ((S.2 27) (S.1 1042).toNatClampNeg)), (0, .ref (a 26)), (1, .int x1)]) hx hb dX4_divide_40 rfl hl (by decide) rfl (fun ls hl => ?_)
  refine lv_iload_n hx hb dX4_divide_41 rfl (lv_at hl 0 rfl) ?_
  refine lv_if_ne (tgt := 51) hx hb dX4_divide_42 (by decide) (fun c_3 => ?_) (fun c_3 => ?_)
  · have hok := okF hok c_3
    have hZ := rsF hZ c_3
    refine lv_aload_n hx hb dX4_divide_51 rfl (lv_at hl 2 rfl) ?_
    refine lv_iload_n hx hb dX4_divide_52 rfl (lv_at hl 3 rfl) ?_
    refine lv_if_eq (tgt := 62) hx hb dX4_divide_53 (by decide) (fun c_4 => ?_) (fun c_4 => ?_)
    · have hok := okT hok c_4
      have hZ := rsT hZ c_4
      refine lv_iload_n hx hb dX4_divide_62 rfl (lv_at hl 1 rfl) ?_
      refine lv_iload_n hx hb dX4_divide_63 rfl (lv_at hl 0 rfl) ?_
      obtain ⟨h_5, hok⟩ := hok
      refine lv_idiv hx hb dX4_divide_64 h_5 ?_
      exact w_X4_divide_65 C0 hK hA Z S (((S.2 27) (S.1 1042).toNatClampNeg) / ((S.2 27) ((S.1 1042) + 1).toNatClampNeg)) hok hZ _ _ hP hD hS _ (lv_sub hl [] rfl)
    · have hok := okF hok c_4
      have hZ := rsF hZ c_4
      refine lv_iload_n hx hb dX4_divide_56 rfl (lv_at hl 1 rfl) ?_
      refine lv_iload_n hx hb dX4_divide_57 rfl (lv_at hl 0 rfl) ?_
      obtain ⟨h_6, hok⟩ := hok
      refine lv_irem hx hb dX4_divide_58 h_6 ?_
      refine lv_goto (tgt := 65) hx hb dX4_divide_59 (by decide) ?_
      exact w_X4_divide_65 C0 hK hA Z S (((S.2 27) (S.1 1042).toNatClampNeg) - ((S.2 27) (S.1 1042).toNatClampNeg) / ((S.2 27) ((S.1 1042) + 1).toNatClampNeg) * ((S.2 27) ((S.1 1042) + 1).toNatClampNeg)) hok hZ _ _ hP hD hS _ (lv_sub hl [] rfl)
  · have hok := okT hok c_3
    have hZ := rsT hZ c_3
    refine lv_aload_n hx hb dX4_divide_45 rfl (lv_at hl 2 rfl) ?_
    refine lv_iconst (v := 2) hx hb dX4_divide_46 (by decide) ?_
    refine va_put (D := (dC, dI)) (ci := 3) (v := .int 2) (ty := .int) (C := RX4) (T := TX4) (N := 6) hx hb hts iX4_divide_X4 tyX4 tyX4_ok nmX4 hown hK hP hD hS 26 rfl rfl 5 (by decide) (hts (.fieldLink RX4 31 "RiskHouse$Machine" "failure" "I") (by decide +kernel)) (fun _ h9 => h9) rfl (by decide +kernel) rfl rfl (Nat.le_of_ble_eq_true rfl) dX4_divide_47 (fun H locs hP hD hS => ?_)
    have hP : va_P (dC, dI) vwCl (cW cI cZ a (sI S 1045 2)) H := hP
    have hD : va_D A (cW cI cZ a (sI S 1045 2)) := hD
    exact W.vret hx hb hr (fun t ht hW => ⟨⟨(sI S 1045 2), rfl, hZ, by rw [ht]; exact hP, va_K.moved hW.alike hK, hD⟩, hS.F ht⟩) hS.2.2 dX4_divide_50 hlocks
def rs_X4_divide_5 (S : St) (x1 : Int32) (z0 : Int32) : St := (if z0 = 0 then S else (rs_X4_divide_19 (sI S 1042 ((S.1 1042) - 2)) x1))
def ok_X4_divide_5 (S : St) (x1 : Int32) (z0 : Int32) : Prop := (if z0 = 0 then True else ok_X4_divide_19 (sI S 1042 ((S.1 1042) - 2)) x1)
set_option maxHeartbeats 4000000 in
set_option maxRecDepth 100000 in
theorem w_X4_divide_5 {p : Program} {l : Launch} {e : Env} {s : State} {m : MethodId} {args : Array Value} {below : List Frame} {meth : Method} {c : Code} {dC : Nat → ClassId} {dI : Nat → Nat → Nat} {cI cZ : ClassId} {a : Nat → Nat} {A : Nat → Prop} (C0 : Cx p s m args meth c RX4 cX4_divide none 4 wsX4_divide) (hK : va_K (dC, dI) vwCl (tI cI cZ) s) (hA : ∀ q, s.heap.size ≤ q → A q) (Z : St) (S : St) (x1 : Int32) (z0 : Int32) (hok : ok_X4_divide_5 S x1 z0) (hZ : rs_X4_divide_5 S x1 z0 = Z) (H : Heap) (locs : List Loc) (hP : va_P (dC, dI) vwCl (cW cI cZ a S) H) (hD : va_D A (cW cI cZ a S)) (hS : va_S A s.heap H locs) (ls : Array Slot) (hl : lv_has ls 4 [(0, .ref (a 26)), (1, .int x1)]) : W p l e rm_X4_divide s m args below meth c H locs 0 0 (MQ below (va_Qv (fun u : St => u = Z) (cWB dC dI cI cZ a A) A) args s 0 0 A) (F0 m 5 ls [.int z0]) := by
  obtain ⟨hx, hb, hr, hml, hown, hts, hlocks⟩ := id C0
  rw [ok_X4_divide_5] at hok
  rw [rs_X4_divide_5] at hZ
  refine lv_if_ne (tgt := 9) hx hb dX4_divide_5 (by decide) (fun c_1 => ?_) (fun c_1 => ?_)
  · have hok := okF hok c_1
    have hZ := rsF hZ c_1
    refine lv_aload_n hx hb dX4_divide_9 rfl (lv_at hl 0 rfl) ?_
    refine lv_dup hx hb dX4_divide_10 rfl ?_
    refine va_get (D := (dC, dI)) (ci := 3) (v := .int (S.1 1042)) (C := RX4) (T := TX4) (N := 6) hx hb hts iX4_divide_X4 hown hK hP 26 rfl rfl 2 (by decide) (hts (.fieldLink RX4 47 "RiskHouse$Machine" "depth" "I") (by decide +kernel)) (fun _ h9 => h9) rfl dX4_divide_11 ?_
    refine lv_iconst (v := 2) hx hb dX4_divide_14 (by decide) ?_
    refine lv_isub hx hb dX4_divide_15 ?_
    refine va_put (D := (dC, dI)) (ci := 3) (v := .int ((S.1 1042) - 2)) (ty := .int) (C := RX4) (T := TX4) (N := 6) hx hb hts iX4_divide_X4 tyX4 tyX4_ok nmX4 hown hK hP hD hS 26 rfl rfl 2 (by decide) (hts (.fieldLink RX4 47 "RiskHouse$Machine" "depth" "I") (by decide +kernel)) (fun _ h9 => h9) rfl (by decide +kernel) rfl rfl (Nat.le_of_ble_eq_true rfl) dX4_divide_16 (fun H locs hP hD hS => ?_)
    have hP : va_P (dC, dI) vwCl (cW cI cZ a (sI S 1042 ((S.1 1042) - 2))) H := hP
    have hD : va_D A (cW cI cZ a (sI S 1042 ((S.1 1042) - 2))) := hD
    exact w_X4_divide_19 C0 hK hA Z (sI S 1042 ((S.1 1042) - 2)) x1 hok hZ _ _ hP hD hS _ (lv_sub hl [0, 1] rfl)
  · have hok := okT hok c_1
    have hZ := rsT hZ c_1
    exact W.vret hx hb hr (fun t ht hW => ⟨⟨S, rfl, hZ, by rw [ht]; exact hP, va_K.moved hW.alike hK, hD⟩, hS.F ht⟩) hS.2.2 dX4_divide_8 hlocks
def rs_X4_divide (S : St) (x1 : Int32) : St := (rs_X4_divide_5 (rs_X4_canTake S 2).2 x1 ((rs_X4_canTake S 2).1))
def ok_X4_divide (S : St) (x1 : Int32) : Prop := ((ok_X4_canTake S 2) ∧ ok_X4_divide_5 (rs_X4_canTake S 2).2 x1 ((rs_X4_canTake S 2).1))
set_option maxHeartbeats 4000000 in
set_option maxRecDepth 100000 in
theorem w_X4_divide {p : Program} {l : Launch} {e : Env} {s : State} {m : MethodId} {args : Array Value} {below : List Frame} {meth : Method} {c : Code} {dC : Nat → ClassId} {dI : Nat → Nat → Nat} {cI cZ : ClassId} {a : Nat → Nat} {A : Nat → Prop} (C0 : Cx p s m args meth c RX4 cX4_divide none 4 wsX4_divide) (hK : va_K (dC, dI) vwCl (tI cI cZ) s) (hA : ∀ q, s.heap.size ≤ q → A q) (Z : St) (S : St) (x1 : Int32) (hok : ok_X4_divide S x1) (hZ : rs_X4_divide S x1 = Z) (H : Heap) (locs : List Loc) (hP : va_P (dC, dI) vwCl (cW cI cZ a S) H) (hD : va_D A (cW cI cZ a S)) (hS : va_S A s.heap H locs) (ls : Array Slot) (hl : lv_has ls 4 [(0, .ref (a 26)), (1, .int x1)]) : W p l e rm_X4_divide s m args below meth c H locs 0 0 (MQ below (va_Qv (fun u : St => u = Z) (cWB dC dI cI cZ a A) A) args s 0 0 A) (F0 m 0 ls []) := by
  obtain ⟨hx, hb, hr, hml, hown, hts, hlocks⟩ := id C0
  rw [ok_X4_divide] at hok
  rw [rs_X4_divide] at hZ
  refine lv_aload_n hx hb dX4_divide_0 rfl (lv_at hl 0 rfl) ?_
  refine lv_iconst (v := 2) hx hb dX4_divide_1 (by decide) ?_
  obtain ⟨k_1, hok⟩ := hok
  have hFc := wFw (w := cW cI cZ a S) hD hS hA
  refine va_calli (va_runV (As := [.int 2]) (rest := []) ⟨hx, hb, hml, hown, hts⟩ (c_X4_canTake l dC dI cI cZ a H.size S 2 k_1) (cwV 1 hts gX4_divide_X4_canTake rfl rfl rfl (by decide +kernel) ⟨Nat.le_of_ble_eq_true rfl, Nat.le_of_ble_eq_true rfl⟩) ⟨wBl, va_recv hK hP (ci := 3) (q0 := 26) rfl rfl, fun U hU hW => ⟨rfl, by rw [hU], by rw [hU]; exact hP, va_K.moved hW.alike hK, hD.weaken (fun _ _ _ _ => trivial)⟩⟩ rfl rfl hl.1 rfl (lv_room (Nat.le_of_ble_eq_true rfl)) dX4_divide_2 ⟨Nat.zero_le _, Nat.zero_le _⟩) hS (fun q _ h => hFc q h) hFc (fun r u t H1 locs ht hvm hw hB hz1 hk1 hS => ?_)
  obtain ⟨hP, hD⟩ := wJn ht hFc hB.1 hB.2.2
  have e1 : r = (rs_X4_canTake S 2).1 := congrArg Prod.fst hw
  have e2 : u = (rs_X4_canTake S 2).2 := congrArg Prod.snd hw
  rw [e1]
  rw [e2] at hP hD
  generalize H1 = H at hP hS ⊢
  exact w_X4_divide_5 C0 hK hA Z (rs_X4_canTake S 2).2 x1 ((rs_X4_canTake S 2).1) hok hZ _ _ hP hD hS _ (lv_sub hl [0, 1] rfl)
set_option maxHeartbeats 4000000 in
set_option maxRecDepth 100000 in
theorem c_X4_divide (l : Launch) (dC : Nat → ClassId) (dI : Nat → Nat → Nat) (cI cZ : ClassId) (a : Nat → Nat) (sz : Nat) (S : St) (x1 : Int32) (hok : ok_X4_divide S x1) : Met l yX4_divide wsX4_divide rm_X4_divide (va_Pc [.ref (a 26), .int x1] (cWP dC dI cI cZ a sz S)) (va_Qv (fun u : St => u = rs_X4_divide S x1) (cWB dC dI cI cZ a (va_A (cW cI cZ a S) sz)) (va_A (cW cI cZ a S) sz)) 0 0 (va_A (cW cI cZ a S) sz) := by
  refine Met.ofW (cc := cX4_divide) (maxL := 4) (ret := none) (by decide) rfl ?_
  intro p e s m args below meth c s₁ B hml hv
  obtain ⟨rfl, hsz, hP, hK, hD0⟩ := hv
  subst hsz
  have hD := hD0.self (sz := s.heap.size)
  have hl := lv_entry ([.ref (a 26), .int x1]) (n := 4) (Nat.le_of_ble_eq_true rfl)
  rw [lg_entry_eq]
  generalize (lg_sl ([.ref (a 26), .int x1]) ++ List.replicate (4 - (lg_sl ([.ref (a 26), .int x1])).length) Slot.unset).toArray = ls at hl ⊢
  have hl : lv_has ls 4 [(0, .ref (a 26)), (1, .int x1)] := hl
  exact w_X4_divide ⟨B.exec, B.bytes, B.returns, hml, findClass_of_methodNamed B.named, atoms_spec (ws := wsX4_divide) B.pre, B.notSynchronized⟩ hK (fun q h => Or.inr h) _ S x1 hok rfl _ _ hP hD va_S.rf ls hl
abbrev rm_X4_step : Room := { frames := 2, cells := 0, slots := 0, locals := 44 }
theorem iX4_step_X4 : ∀ w ∈ wsX40, w ∈ wsX4_step := by decide +kernel
def rs_X4_step_73 (S : St)  : St := S
def ok_X4_step_73 (S : St)  : Prop := True
set_option maxHeartbeats 4000000 in
set_option maxRecDepth 100000 in
theorem w_X4_step_73 {p : Program} {l : Launch} {e : Env} {s : State} {m : MethodId} {args : Array Value} {below : List Frame} {meth : Method} {c : Code} {dC : Nat → ClassId} {dI : Nat → Nat → Nat} {cI cZ : ClassId} {a : Nat → Nat} {A : Nat → Prop} (C0 : Cx p s m args meth c RX4 cX4_step none 6 wsX4_step) (hK : va_K (dC, dI) vwCl (tI cI cZ) s) (hA : ∀ q, s.heap.size ≤ q → A q) (Z : St) (S : St)  (hok : ok_X4_step_73 S) (hZ : rs_X4_step_73 S = Z) (H : Heap) (locs : List Loc) (hP : va_P (dC, dI) vwCl (cW cI cZ a S) H) (hD : va_D A (cW cI cZ a S)) (hS : va_S A s.heap H locs) (ls : Array Slot) (hl : lv_has ls 6 []) : W p l e rm_X4_step s m args below meth c H locs 0 0 (MQ below (va_Qv (fun u : St => u = Z) (cWB dC dI cI cZ a A) A) args s 0 0 A) (F0 m 73 ls []) := by
  obtain ⟨hx, hb, hr, hml, hown, hts, hlocks⟩ := id C0
  rw [ok_X4_step_73] at hok
  rw [rs_X4_step_73] at hZ
  refine lv_goto (tgt := 154) hx hb dX4_step_73 (by decide) ?_
  exact W.vret hx hb hr (fun t ht hW => ⟨⟨S, rfl, hZ, by rw [ht]; exact hP, va_K.moved hW.alike hK, hD⟩, hS.F ht⟩) hS.2.2 dX4_step_154 hlocks
def rs_X4_step_84 (S : St)  : St := S
def ok_X4_step_84 (S : St)  : Prop := True
set_option maxHeartbeats 4000000 in
set_option maxRecDepth 100000 in
theorem w_X4_step_84 {p : Program} {l : Launch} {e : Env} {s : State} {m : MethodId} {args : Array Value} {below : List Frame} {meth : Method} {c : Code} {dC : Nat → ClassId} {dI : Nat → Nat → Nat} {cI cZ : ClassId} {a : Nat → Nat} {A : Nat → Prop} (C0 : Cx p s m args meth c RX4 cX4_step none 6 wsX4_step) (hK : va_K (dC, dI) vwCl (tI cI cZ) s) (hA : ∀ q, s.heap.size ≤ q → A q) (Z : St) (S : St)  (hok : ok_X4_step_84 S) (hZ : rs_X4_step_84 S = Z) (H : Heap) (locs : List Loc) (hP : va_P (dC, dI) vwCl (cW cI cZ a S) H) (hD : va_D A (cW cI cZ a S)) (hS : va_S A s.heap H locs) (ls : Array Slot) (hl : lv_has ls 6 []) : W p l e rm_X4_step s m args below meth c H locs 0 0 (MQ below (va_Qv (fun u : St => u = Z) (cWB dC dI cI cZ a A) A) args s 0 0 A) (F0 m 84 ls []) := by
  obtain ⟨hx, hb, hr, hml, hown, hts, hlocks⟩ := id C0
  rw [ok_X4_step_84] at hok
  rw [rs_X4_step_84] at hZ
  refine lv_goto (tgt := 154) hx hb dX4_step_84 (by decide) ?_
  exact W.vret hx hb hr (fun t ht hW => ⟨⟨S, rfl, hZ, by rw [ht]; exact hP, va_K.moved hW.alike hK, hD⟩, hS.F ht⟩) hS.2.2 dX4_step_154 hlocks
def rs_X4_step_95 (S : St)  : St := S
def ok_X4_step_95 (S : St)  : Prop := True
set_option maxHeartbeats 4000000 in
set_option maxRecDepth 100000 in
theorem w_X4_step_95 {p : Program} {l : Launch} {e : Env} {s : State} {m : MethodId} {args : Array Value} {below : List Frame} {meth : Method} {c : Code} {dC : Nat → ClassId} {dI : Nat → Nat → Nat} {cI cZ : ClassId} {a : Nat → Nat} {A : Nat → Prop} (C0 : Cx p s m args meth c RX4 cX4_step none 6 wsX4_step) (hK : va_K (dC, dI) vwCl (tI cI cZ) s) (hA : ∀ q, s.heap.size ≤ q → A q) (Z : St) (S : St)  (hok : ok_X4_step_95 S) (hZ : rs_X4_step_95 S = Z) (H : Heap) (locs : List Loc) (hP : va_P (dC, dI) vwCl (cW cI cZ a S) H) (hD : va_D A (cW cI cZ a S)) (hS : va_S A s.heap H locs) (ls : Array Slot) (hl : lv_has ls 6 []) : W p l e rm_X4_step s m args below meth c H locs 0 0 (MQ below (va_Qv (fun u : St => u = Z) (cWB dC dI cI cZ a A) A) args s 0 0 A) (F0 m 95 ls []) := by
  obtain ⟨hx, hb, hr, hml, hown, hts, hlocks⟩ := id C0
  rw [ok_X4_step_95] at hok
  rw [rs_X4_step_95] at hZ
  refine lv_goto (tgt := 154) hx hb dX4_step_95 (by decide) ?_
  exact W.vret hx hb hr (fun t ht hW => ⟨⟨S, rfl, hZ, by rw [ht]; exact hP, va_K.moved hW.alike hK, hD⟩, hS.F ht⟩) hS.2.2 dX4_step_154 hlocks
def rs_X4_step_105 (S : St)  : St := S
def ok_X4_step_105 (S : St)  : Prop := True
set_option maxHeartbeats 4000000 in
set_option maxRecDepth 100000 in
theorem w_X4_step_105 {p : Program} {l : Launch} {e : Env} {s : State} {m : MethodId} {args : Array Value} {below : List Frame} {meth : Method} {c : Code} {dC : Nat → ClassId} {dI : Nat → Nat → Nat} {cI cZ : ClassId} {a : Nat → Nat} {A : Nat → Prop} (C0 : Cx p s m args meth c RX4 cX4_step none 6 wsX4_step) (hK : va_K (dC, dI) vwCl (tI cI cZ) s) (hA : ∀ q, s.heap.size ≤ q → A q) (Z : St) (S : St)  (hok : ok_X4_step_105 S) (hZ : rs_X4_step_105 S = Z) (H : Heap) (locs : List Loc) (hP : va_P (dC, dI) vwCl (cW cI cZ a S) H) (hD : va_D A (cW cI cZ a S)) (hS : va_S A s.heap H locs) (ls : Array Slot) (hl : lv_has ls 6 []) : W p l e rm_X4_step s m args below meth c H locs 0 0 (MQ below (va_Qv (fun u : St => u = Z) (cWB dC dI cI cZ a A) A) args s 0 0 A) (F0 m 105 ls []) := by
  obtain ⟨hx, hb, hr, hml, hown, hts, hlocks⟩ := id C0
  rw [ok_X4_step_105] at hok
  rw [rs_X4_step_105] at hZ
  refine lv_goto (tgt := 154) hx hb dX4_step_105 (by decide) ?_
  exact W.vret hx hb hr (fun t ht hW => ⟨⟨S, rfl, hZ, by rw [ht]; exact hP, va_K.moved hW.alike hK, hD⟩, hS.F ht⟩) hS.2.2 dX4_step_154 hlocks
def rs_X4_step_121 (S : St)  : St := S
def ok_X4_step_121 (S : St)  : Prop := True
set_option maxHeartbeats 4000000 in
set_option maxRecDepth 100000 in
theorem w_X4_step_121 {p : Program} {l : Launch} {e : Env} {s : State} {m : MethodId} {args : Array Value} {below : List Frame} {meth : Method} {c : Code} {dC : Nat → ClassId} {dI : Nat → Nat → Nat} {cI cZ : ClassId} {a : Nat → Nat} {A : Nat → Prop} (C0 : Cx p s m args meth c RX4 cX4_step none 6 wsX4_step) (hK : va_K (dC, dI) vwCl (tI cI cZ) s) (hA : ∀ q, s.heap.size ≤ q → A q) (Z : St) (S : St)  (hok : ok_X4_step_121 S) (hZ : rs_X4_step_121 S = Z) (H : Heap) (locs : List Loc) (hP : va_P (dC, dI) vwCl (cW cI cZ a S) H) (hD : va_D A (cW cI cZ a S)) (hS : va_S A s.heap H locs) (ls : Array Slot) (hl : lv_has ls 6 []) : W p l e rm_X4_step s m args below meth c H locs 0 0 (MQ below (va_Qv (fun u : St => u = Z) (cWB dC dI cI cZ a A) A) args s 0 0 A) (F0 m 121 ls []) := by
  obtain ⟨hx, hb, hr, hml, hown, hts, hlocks⟩ := id C0
  rw [ok_X4_step_121] at hok
  rw [rs_X4_step_121] at hZ
  refine lv_goto (tgt := 154) hx hb dX4_step_121 (by decide) ?_
  exact W.vret hx hb hr (fun t ht hW => ⟨⟨S, rfl, hZ, by rw [ht]; exact hP, va_K.moved hW.alike hK, hD⟩, hS.F ht⟩) hS.2.2 dX4_step_154 hlocks
def rs_X4_step_138 (S : St)  : St := S
def ok_X4_step_138 (S : St)  : Prop := True
set_option maxHeartbeats 4000000 in
set_option maxRecDepth 100000 in
theorem w_X4_step_138 {p : Program} {l : Launch} {e : Env} {s : State} {m : MethodId} {args : Array Value} {below : List Frame} {meth : Method} {c : Code} {dC : Nat → ClassId} {dI : Nat → Nat → Nat} {cI cZ : ClassId} {a : Nat → Nat} {A : Nat → Prop} (C0 : Cx p s m args meth c RX4 cX4_step none 6 wsX4_step) (hK : va_K (dC, dI) vwCl (tI cI cZ) s) (hA : ∀ q, s.heap.size ≤ q → A q) (Z : St) (S : St)  (hok : ok_X4_step_138 S) (hZ : rs_X4_step_138 S = Z) (H : Heap) (locs : List Loc) (hP : va_P (dC, dI) vwCl (cW cI cZ a S) H) (hD : va_D A (cW cI cZ a S)) (hS : va_S A s.heap H locs) (ls : Array Slot) (hl : lv_has ls 6 []) : W p l e rm_X4_step s m args below meth c H locs 0 0 (MQ below (va_Qv (fun u : St => u = Z) (cWB dC dI cI cZ a A) A) args s 0 0 A) (F0 m 138 ls []) := by
  obtain ⟨hx, hb, hr, hml, hown, hts, hlocks⟩ := id C0
  rw [ok_X4_step_138] at hok
  rw [rs_X4_step_138] at hZ
  refine lv_goto (tgt := 154) hx hb dX4_step_138 (by decide) ?_
  exact W.vret hx hb hr (fun t ht hW => ⟨⟨S, rfl, hZ, by rw [ht]; exact hP, va_K.moved hW.alike hK, hD⟩, hS.F ht⟩) hS.2.2 dX4_step_154 hlocks
def rs_X4_step_146 (S : St)  : St := S
def ok_X4_step_146 (S : St)  : Prop := True
set_option maxHeartbeats 4000000 in
set_option maxRecDepth 100000 in
theorem w_X4_step_146 {p : Program} {l : Launch} {e : Env} {s : State} {m : MethodId} {args : Array Value} {below : List Frame} {meth : Method} {c : Code} {dC : Nat → ClassId} {dI : Nat → Nat → Nat} {cI cZ : ClassId} {a : Nat → Nat} {A : Nat → Prop} (C0 : Cx p s m args meth c RX4 cX4_step none 6 wsX4_step) (hK : va_K (dC, dI) vwCl (tI cI cZ) s) (hA : ∀ q, s.heap.size ≤ q → A q) (Z : St) (S : St)  (hok : ok_X4_step_146 S) (hZ : rs_X4_step_146 S = Z) (H : Heap) (locs : List Loc) (hP : va_P (dC, dI) vwCl (cW cI cZ a S) H) (hD : va_D A (cW cI cZ a S)) (hS : va_S A s.heap H locs) (ls : Array Slot) (hl : lv_has ls 6 []) : W p l e rm_X4_step s m args below meth c H locs 0 0 (MQ below (va_Qv (fun u : St => u = Z) (cWB dC dI cI cZ a A) A) args s 0 0 A) (F0 m 146 ls []) := by
  obtain ⟨hx, hb, hr, hml, hown, hts, hlocks⟩ := id C0
  rw [ok_X4_step_146] at hok
  rw [rs_X4_step_146] at hZ
  refine lv_goto (tgt := 154) hx hb dX4_step_146 (by decide) ?_
  exact W.vret hx hb hr (fun t ht hW => ⟨⟨S, rfl, hZ, by rw [ht]; exact hP, va_K.moved hW.alike hK, hD⟩, hS.F ht⟩) hS.2.2 dX4_step_154 hlocks
def rs_X4_step_149 (S : St) (x1 : Int32) : St := (rs_X4_join S x1)
def ok_X4_step_149 (S : St) (x1 : Int32) : Prop := ((ok_X4_join S x1) ∧ True)
set_option maxHeartbeats 4000000 in
set_option maxRecDepth 100000 in
theorem w_X4_step_149 {p : Program} {l : Launch} {e : Env} {s : State} {m : MethodId} {args : Array Value} {below : List Frame} {meth : Method} {c : Code} {dC : Nat → ClassId} {dI : Nat → Nat → Nat} {cI cZ : ClassId} {a : Nat → Nat} {A : Nat → Prop} (C0 : Cx p s m args meth c RX4 cX4_step none 6 wsX4_step) (hK : va_K (dC, dI) vwCl (tI cI cZ) s) (hA : ∀ q, s.heap.size ≤ q → A q) (Z : St) (S : St) (x1 : Int32) (hok : ok_X4_step_149 S x1) (hZ : rs_X4_step_149 S x1 = Z) (H : Heap) (locs : List Loc) (hP : va_P (dC, dI) vwCl (cW cI cZ a S) H) (hD : va_D A (cW cI cZ a S)) (hS : va_S A s.heap H locs) (ls : Array Slot) (hl : lv_has ls 6 [(0, .ref (a 26)), (1, .int x1)]) : W p l e rm_X4_step s m args below meth c H locs 0 0 (MQ below (va_Qv (fun u : St => u = Z) (cWB dC dI cI cZ a A) A) args s 0 0 A) (F0 m 149 ls []) := by
  obtain ⟨hx, hb, hr, hml, hown, hts, hlocks⟩ := id C0
  rw [ok_X4_step_149] at hok
  rw [rs_X4_step_149] at hZ
  refine lv_aload_n hx hb dX4_step_149 rfl (lv_at hl 0 rfl) ?_
  refine lv_iload_n hx hb dX4_step_150 rfl (lv_at hl 1 rfl) ?_
  obtain ⟨k_1, hok⟩ := hok
  have hFc := wFw (w := cW cI cZ a S) hD hS hA
  refine va_callv (va_runV (As := [.int x1]) (rest := []) ⟨hx, hb, hml, hown, hts⟩ (c_X4_join l dC dI cI cZ a H.size S x1 k_1) (cwV 1 hts gX4_step_X4_join rfl rfl rfl (by decide +kernel) ⟨Nat.le_of_ble_eq_true rfl, Nat.le_of_ble_eq_true rfl⟩) ⟨wBl, va_recv hK hP (ci := 3) (q0 := 26) rfl rfl, fun U hU hW => ⟨rfl, by rw [hU], by rw [hU]; exact hP, va_K.moved hW.alike hK, hD.weaken (fun _ _ _ _ => trivial)⟩⟩ rfl rfl hl.1 rfl (lv_room (Nat.le_of_ble_eq_true rfl)) dX4_step_151 ⟨Nat.zero_le _, Nat.zero_le _⟩) hS (fun q _ h => hFc q h) hFc (fun u t H1 locs ht hvm hw hB hz1 hk1 hS => ?_)
  obtain ⟨hP, hD⟩ := wJn ht hFc hB.1 hB.2.2
  rw [hw] at hP hD
  generalize H1 = H at hP hS ⊢
  exact W.vret hx hb hr (fun t ht hW => ⟨⟨(rs_X4_join S x1), rfl, hZ, by rw [ht]; exact hP, va_K.moved hW.alike hK, hD⟩, hS.F ht⟩) hS.2.2 dX4_step_154 hlocks
def rs_X4_step (S : St) (x1 : Int32) (x2 : Int32) (x3 : Int32) : St := (if x1 = 0 then (rs_X4_step_73 (rs_X4_put S x2)) else (if x1 = 1 then (rs_X4_step_84 (rs_X4_put S ((S.2 1) x2.toNatClampNeg))) else (if x1 = 2 then (rs_X4_step_95 (rs_X4_put S ((S.2 12) x3.toNatClampNeg))) else (if x1 = 3 then (rs_X4_step_105 (rs_X4_keep S x3)) else (if x1 = 7 then (rs_X4_step_138 (rs_X4_divide S 0)) else (if x1 = 8 then (rs_X4_step_146 (rs_X4_divide S 1)) else (if x1 = 10 then (sI S 1043 x2) else (if x1 = 11 then (rs_X4_step_121 (rs_X4_goIfZero S x2)) else (if x1 = 12 then (sI S 1043 16) else (rs_X4_step_149 S x1))))))))))
def ok_X4_step (S : St) (x1 : Int32) (x2 : Int32) (x3 : Int32) : Prop := (if x1 = 0 then ((ok_X4_put S x2) ∧ ok_X4_step_73 (rs_X4_put S x2)) else (if x1 = 1 then ((vp_in x2 8) ∧ ((ok_X4_put S ((S.2 1) x2.toNatClampNeg)) ∧ ok_X4_step_84 (rs_X4_put S ((S.2 1) x2.toNatClampNeg)))) else (if x1 = 2 then ((vp_in x3 4) ∧ ((ok_X4_put S ((S.2 12) x3.toNatClampNeg)) ∧ ok_X4_step_95 (rs_X4_put S ((S.2 12) x3.toNatClampNeg)))) else (if x1 = 3 then ((ok_X4_keep S x3) ∧ ok_X4_step_105 (rs_X4_keep S x3)) else (if x1 = 7 then ((ok_X4_divide S 0) ∧ ok_X4_step_138 (rs_X4_divide S 0)) else (if x1 = 8 then ((ok_X4_divide S 1) ∧ ok_X4_step_146 (rs_X4_divide S 1)) else (if x1 = 10 then True else (if x1 = 11 then ((ok_X4_goIfZero S x2) ∧ ok_X4_step_121 (rs_X4_goIfZero S x2)) else (if x1 = 12 then True else ok_X4_step_149 S x1)))))))))
set_option maxHeartbeats 4000000 in
set_option maxRecDepth 100000 in
theorem w_X4_step {p : Program} {l : Launch} {e : Env} {s : State} {m : MethodId} {args : Array Value} {below : List Frame} {meth : Method} {c : Code} {dC : Nat → ClassId} {dI : Nat → Nat → Nat} {cI cZ : ClassId} {a : Nat → Nat} {A : Nat → Prop} (C0 : Cx p s m args meth c RX4 cX4_step none 6 wsX4_step) (hK : va_K (dC, dI) vwCl (tI cI cZ) s) (hA : ∀ q, s.heap.size ≤ q → A q) (Z : St) (S : St) (x1 : Int32) (x2 : Int32) (x3 : Int32) (hok : ok_X4_step S x1 x2 x3) (hZ : rs_X4_step S x1 x2 x3 = Z) (H : Heap) (locs : List Loc) (hP : va_P (dC, dI) vwCl (cW cI cZ a S) H) (hD : va_D A (cW cI cZ a S)) (hS : va_S A s.heap H locs) (ls : Array Slot) (hl : lv_has ls 6 [(0, .ref (a 26)), (1, .int x1), (2, .int x2), (3, .int x3), (4, .ref (a 1)), (5, .ref (a 12))]) : W p l e rm_X4_step s m args below meth c H locs 0 0 (MQ below (va_Qv (fun u : St => u = Z) (cWB dC dI cI cZ a A) A) args s 0 0 A) (F0 m 0 ls []) := by
  obtain ⟨hx, hb, hr, hml, hown, hts, hlocks⟩ := id C0
  rw [ok_X4_step] at hok
  rw [rs_X4_step] at hZ
  refine lv_iload_n hx hb dX4_step_0 rfl (lv_at hl 1 rfl) ?_
  by_cases c_10_k0 : x1 = 0
  · have hok := okT hok c_10_k0
    have hZ := rsT hZ c_10_k0
    refine lv_tableIn (off := 67) (tgt := 68) hx hb dX4_step_1 (by rw [c_10_k0]; decide) (by rw [c_10_k0]; decide) (by rw [c_10_k0]; rfl) (by decide) ?_
    refine lv_aload_n hx hb dX4_step_68 rfl (lv_at hl 0 rfl) ?_
    refine lv_iload_n hx hb dX4_step_69 rfl (lv_at hl 2 rfl) ?_
    obtain ⟨k_1, hok⟩ := hok
    have hFc := wFw (w := cW cI cZ a S) hD hS hA
    refine va_callv (va_runV (As := [.int x2]) (rest := []) ⟨hx, hb, hml, hown, hts⟩ (c_X4_put l dC dI cI cZ a H.size S x2 k_1) (cwV 1 hts gX4_step_X4_put rfl rfl rfl (by decide +kernel) ⟨Nat.le_of_ble_eq_true rfl, Nat.le_of_ble_eq_true rfl⟩) ⟨wBl, va_recv hK hP (ci := 3) (q0 := 26) rfl rfl, fun U hU hW => ⟨rfl, by rw [hU], by rw [hU]; exact hP, va_K.moved hW.alike hK, hD.weaken (fun _ _ _ _ => trivial)⟩⟩ rfl rfl hl.1 rfl (lv_room (Nat.le_of_ble_eq_true rfl)) dX4_step_70 ⟨Nat.zero_le _, Nat.zero_le _⟩) hS (fun q _ h => hFc q h) hFc (fun u t H1 locs ht hvm hw hB hz1 hk1 hS => ?_)
    obtain ⟨hP, hD⟩ := wJn ht hFc hB.1 hB.2.2
    rw [hw] at hP hD
    generalize H1 = H at hP hS ⊢
    exact w_X4_step_73 C0 hK hA Z (rs_X4_put S x2) hok hZ _ _ hP hD hS _ (lv_sub hl [] rfl)
  · have hok := okF hok c_10_k0
    have hZ := rsF hZ c_10_k0
    by_cases c_10_k1 : x1 = 1
    · have hok := okT hok c_10_k1
      have hZ := rsT hZ c_10_k1
      refine lv_tableIn (off := 75) (tgt := 76) hx hb dX4_step_1 (by rw [c_10_k1]; decide) (by rw [c_10_k1]; decide) (by rw [c_10_k1]; rfl) (by decide) ?_
      refine lv_aload_n hx hb dX4_step_76 rfl (lv_at hl 0 rfl) ?_
      refine lv_aload hx hb dX4_step_77 (lv_at hl 4 rfl) ?_
      refine lv_iload_n hx hb dX4_step_79 rfl (lv_at hl 2 rfl) ?_
      obtain ⟨h_2, hok⟩ := hok
      refine va_iald (f := (S.2 1)) hx hb hK hP 1 0 rfl rfl h_2 dX4_step_80 ?_
      obtain ⟨k_3, hok⟩ := hok
      have hFc := wFw (w := cW cI cZ a S) hD hS hA
      refine va_callv (va_runV (As := [.int ((S.2 1) x2.toNatClampNeg)]) (rest := []) ⟨hx, hb, hml, hown, hts⟩ (c_X4_put l dC dI cI cZ a H.size S ((S.2 1) x2.toNatClampNeg) k_3) (cwV 1 hts gX4_step_X4_put rfl rfl rfl (by decide +kernel) ⟨Nat.le_of_ble_eq_true rfl, Nat.le_of_ble_eq_true rfl⟩) ⟨wBl, va_recv hK hP (ci := 3) (q0 := 26) rfl rfl, fun U hU hW => ⟨rfl, by rw [hU], by rw [hU]; exact hP, va_K.moved hW.alike hK, hD.weaken (fun _ _ _ _ => trivial)⟩⟩ rfl rfl hl.1 rfl (lv_room (Nat.le_of_ble_eq_true rfl)) dX4_step_81 ⟨Nat.zero_le _, Nat.zero_le _⟩) hS (fun q _ h => hFc q h) hFc (fun u t H1 locs ht hvm hw hB hz1 hk1 hS => ?_)
      obtain ⟨hP, hD⟩ := wJn ht hFc hB.1 hB.2.2
      rw [hw] at hP hD
      generalize H1 = H at hP hS ⊢
      exact w_X4_step_84 C0 hK hA Z (rs_X4_put S ((S.2 1) x2.toNatClampNeg)) hok hZ _ _ hP hD hS _ (lv_sub hl [] rfl)
    · have hok := okF hok c_10_k1
      have hZ := rsF hZ c_10_k1
      by_cases c_10_k2 : x1 = 2
      · have hok := okT hok c_10_k2
        have hZ := rsT hZ c_10_k2
        refine lv_tableIn (off := 86) (tgt := 87) hx hb dX4_step_1 (by rw [c_10_k2]; decide) (by rw [c_10_k2]; decide) (by rw [c_10_k2]; rfl) (by decide) ?_
        refine lv_aload_n hx hb dX4_step_87 rfl (lv_at hl 0 rfl) ?_
        refine lv_aload hx hb dX4_step_88 (lv_at hl 5 rfl) ?_
        refine lv_iload_n hx hb dX4_step_90 rfl (lv_at hl 3 rfl) ?_
        obtain ⟨h_4, hok⟩ := hok
        refine va_iald (f := (S.2 12)) hx hb hK hP 12 0 rfl rfl h_4 dX4_step_91 ?_
        obtain ⟨k_5, hok⟩ := hok
        have hFc := wFw (w := cW cI cZ a S) hD hS hA
        refine va_callv (va_runV (As := [.int ((S.2 12) x3.toNatClampNeg)]) (rest := []) ⟨hx, hb, hml, hown, hts⟩ (c_X4_put l dC dI cI cZ a H.size S ((S.2 12) x3.toNatClampNeg) k_5) (cwV 1 hts gX4_step_X4_put rfl rfl rfl (by decide +kernel) ⟨Nat.le_of_ble_eq_true rfl, Nat.le_of_ble_eq_true rfl⟩) ⟨wBl, va_recv hK hP (ci := 3) (q0 := 26) rfl rfl, fun U hU hW => ⟨rfl, by rw [hU], by rw [hU]; exact hP, va_K.moved hW.alike hK, hD.weaken (fun _ _ _ _ => trivial)⟩⟩ rfl rfl hl.1 rfl (lv_room (Nat.le_of_ble_eq_true rfl)) dX4_step_92 ⟨Nat.zero_le _, Nat.zero_le _⟩) hS (fun q _ h => hFc q h) hFc (fun u t H1 locs ht hvm hw hB hz1 hk1 hS => ?_)
        obtain ⟨hP, hD⟩ := wJn ht hFc hB.1 hB.2.2
        rw [hw] at hP hD
        generalize H1 = H at hP hS ⊢
        exact w_X4_step_95 C0 hK hA Z (rs_X4_put S ((S.2 12) x3.toNatClampNeg)) hok hZ _ _ hP hD hS _ (lv_sub hl [] rfl)
      · have hok := okF hok c_10_k2
        have hZ := rsF hZ c_10_k2
        by_cases c_10_k3 : x1 = 3
        · have hok := okT hok c_10_k3
          have hZ := rsT hZ c_10_k3
          refine lv_tableIn (off := 97) (tgt := 98) hx hb dX4_step_1 (by rw [c_10_k3]; decide) (by rw [c_10_k3]; decide) (by rw [c_10_k3]; rfl) (by decide) ?_
          refine lv_aload_n hx hb dX4_step_98 rfl (lv_at hl 0 rfl) ?_
          refine lv_iload_n hx hb dX4_step_99 rfl (lv_at hl 3 rfl) ?_
          refine lv_aload hx hb dX4_step_100 (lv_at hl 5 rfl) ?_
          obtain ⟨k_6, hok⟩ := hok
          have hFc := wFw (w := cW cI cZ a S) hD hS hA
          refine va_callv (va_runV (As := [.int x3, .ref (a 12)]) (rest := []) ⟨hx, hb, hml, hown, hts⟩ (c_X4_keep l dC dI cI cZ a H.size S x3 k_6) (cwV 2 hts gX4_step_X4_keep rfl rfl rfl (by decide +kernel) ⟨Nat.le_of_ble_eq_true rfl, Nat.le_of_ble_eq_true rfl⟩) ⟨wBl, va_recv hK hP (ci := 3) (q0 := 26) rfl rfl, fun U hU hW => ⟨rfl, by rw [hU], by rw [hU]; exact hP, va_K.moved hW.alike hK, hD.weaken (fun _ _ _ _ => trivial)⟩⟩ rfl rfl hl.1 rfl (lv_room (Nat.le_of_ble_eq_true rfl)) dX4_step_102 ⟨Nat.zero_le _, Nat.zero_le _⟩) hS (fun q _ h => hFc q h) hFc (fun u t H1 locs ht hvm hw hB hz1 hk1 hS => ?_)
          obtain ⟨hP, hD⟩ := wJn ht hFc hB.1 hB.2.2
          rw [hw] at hP hD
          generalize H1 = H at hP hS ⊢
          exact w_X4_step_105 C0 hK hA Z (rs_X4_keep S x3) hok hZ _ _ hP hD hS _ (lv_sub hl [] rfl)
        · have hok := okF hok c_10_k3
          have hZ := rsF hZ c_10_k3
          by_cases c_10_k7 : x1 = 7
          · have hok := okT hok c_10_k7
            have hZ := rsT hZ c_10_k7
            refine lv_tableIn (off := 132) (tgt := 133) hx hb dX4_step_1 (by rw [c_10_k7]; decide) (by rw [c_10_k7]; decide) (by rw [c_10_k7]; rfl) (by decide) ?_
            refine lv_aload_n hx hb dX4_step_133 rfl (lv_at hl 0 rfl) ?_
            refine lv_iconst (v := 0) hx hb dX4_step_134 (by decide) ?_
            obtain ⟨k_7, hok⟩ := hok
            have hFc := wFw (w := cW cI cZ a S) hD hS hA
            refine va_callv (va_runV (As := [.int 0]) (rest := []) ⟨hx, hb, hml, hown, hts⟩ (c_X4_divide l dC dI cI cZ a H.size S 0 k_7) (cwV 1 hts gX4_step_X4_divide rfl rfl rfl (by decide +kernel) ⟨Nat.le_of_ble_eq_true rfl, Nat.le_of_ble_eq_true rfl⟩) ⟨wBl, va_recv hK hP (ci := 3) (q0 := 26) rfl rfl, fun U hU hW => ⟨rfl, by rw [hU], by rw [hU]; exact hP, va_K.moved hW.alike hK, hD.weaken (fun _ _ _ _ => trivial)⟩⟩ rfl rfl hl.1 rfl (lv_room (Nat.le_of_ble_eq_true rfl)) dX4_step_135 ⟨Nat.zero_le _, Nat.zero_le _⟩) hS (fun q _ h => hFc q h) hFc (fun u t H1 locs ht hvm hw hB hz1 hk1 hS => ?_)
            obtain ⟨hP, hD⟩ := wJn ht hFc hB.1 hB.2.2
            rw [hw] at hP hD
            generalize H1 = H at hP hS ⊢
            exact w_X4_step_138 C0 hK hA Z (rs_X4_divide S 0) hok hZ _ _ hP hD hS _ (lv_sub hl [] rfl)
          · have hok := okF hok c_10_k7
            have hZ := rsF hZ c_10_k7
            by_cases c_10_k8 : x1 = 8
            · have hok := okT hok c_10_k8
              have hZ := rsT hZ c_10_k8
              refine lv_tableIn (off := 140) (tgt := 141) hx hb dX4_step_1 (by rw [c_10_k8]; decide) (by rw [c_10_k8]; decide) (by rw [c_10_k8]; rfl) (by decide) ?_
              refine lv_aload_n hx hb dX4_step_141 rfl (lv_at hl 0 rfl) ?_
              refine lv_iconst (v := 1) hx hb dX4_step_142 (by decide) ?_
              obtain ⟨k_8, hok⟩ := hok
              have hFc := wFw (w := cW cI cZ a S) hD hS hA
              refine va_callv (va_runV (As := [.int 1]) (rest := []) ⟨hx, hb, hml, hown, hts⟩ (c_X4_divide l dC dI cI cZ a H.size S 1 k_8) (cwV 1 hts gX4_step_X4_divide rfl rfl rfl (by decide +kernel) ⟨Nat.le_of_ble_eq_true rfl, Nat.le_of_ble_eq_true rfl⟩) ⟨wBl, va_recv hK hP (ci := 3) (q0 := 26) rfl rfl, fun U hU hW => ⟨rfl, by rw [hU], by rw [hU]; exact hP, va_K.moved hW.alike hK, hD.weaken (fun _ _ _ _ => trivial)⟩⟩ rfl rfl hl.1 rfl (lv_room (Nat.le_of_ble_eq_true rfl)) dX4_step_143 ⟨Nat.zero_le _, Nat.zero_le _⟩) hS (fun q _ h => hFc q h) hFc (fun u t H1 locs ht hvm hw hB hz1 hk1 hS => ?_)
              obtain ⟨hP, hD⟩ := wJn ht hFc hB.1 hB.2.2
              rw [hw] at hP hD
              generalize H1 = H at hP hS ⊢
              exact w_X4_step_146 C0 hK hA Z (rs_X4_divide S 1) hok hZ _ _ hP hD hS _ (lv_sub hl [] rfl)
            · have hok := okF hok c_10_k8
              have hZ := rsF hZ c_10_k8
              by_cases c_10_k10 : x1 = 10
              · have hok := okT hok c_10_k10
                have hZ := rsT hZ c_10_k10
                refine lv_tableIn (off := 107) (tgt := 108) hx hb dX4_step_1 (by rw [c_10_k10]; decide) (by rw [c_10_k10]; decide) (by rw [c_10_k10]; rfl) (by decide) ?_
                refine lv_aload_n hx hb dX4_step_108 rfl (lv_at hl 0 rfl) ?_
                refine lv_iload_n hx hb dX4_step_109 rfl (lv_at hl 2 rfl) ?_
                refine va_put (D := (dC, dI)) (ci := 3) (v := .int x2) (ty := .int) (C := RX4) (T := TX4) (N := 6) hx hb hts iX4_step_X4 tyX4 tyX4_ok nmX4 hown hK hP hD hS 26 rfl rfl 3 (by decide) (hts (.fieldLink RX4 28 "RiskHouse$Machine" "at" "I") (by decide +kernel)) (fun _ h9 => h9) rfl (by decide +kernel) rfl rfl (Nat.le_of_ble_eq_true rfl) dX4_step_110 (fun H locs hP hD hS => ?_)
                have hP : va_P (dC, dI) vwCl (cW cI cZ a (sI S 1043 x2)) H := hP
                have hD : va_D A (cW cI cZ a (sI S 1043 x2)) := hD
                refine lv_goto (tgt := 154) hx hb dX4_step_113 (by decide) ?_
                exact W.vret hx hb hr (fun t ht hW => ⟨⟨(sI S 1043 x2), rfl, hZ, by rw [ht]; exact hP, va_K.moved hW.alike hK, hD⟩, hS.F ht⟩) hS.2.2 dX4_step_154 hlocks
              · have hok := okF hok c_10_k10
                have hZ := rsF hZ c_10_k10
                by_cases c_10_k11 : x1 = 11
                · have hok := okT hok c_10_k11
                  have hZ := rsT hZ c_10_k11
                  refine lv_tableIn (off := 115) (tgt := 116) hx hb dX4_step_1 (by rw [c_10_k11]; decide) (by rw [c_10_k11]; decide) (by rw [c_10_k11]; rfl) (by decide) ?_
                  refine lv_aload_n hx hb dX4_step_116 rfl (lv_at hl 0 rfl) ?_
                  refine lv_iload_n hx hb dX4_step_117 rfl (lv_at hl 2 rfl) ?_
                  obtain ⟨k_9, hok⟩ := hok
                  have hFc := wFw (w := cW cI cZ a S) hD hS hA
                  refine va_callv (va_runV (As := [.int x2]) (rest := []) ⟨hx, hb, hml, hown, hts⟩ (c_X4_goIfZero l dC dI cI cZ a H.size S x2 k_9) (cwV 1 hts gX4_step_X4_goIfZero rfl rfl rfl (by decide +kernel) ⟨Nat.le_of_ble_eq_true rfl, Nat.le_of_ble_eq_true rfl⟩) ⟨wBl, va_recv hK hP (ci := 3) (q0 := 26) rfl rfl, fun U hU hW => ⟨rfl, by rw [hU], by rw [hU]; exact hP, va_K.moved hW.alike hK, hD.weaken (fun _ _ _ _ => trivial)⟩⟩ rfl rfl hl.1 rfl (lv_room (Nat.le_of_ble_eq_true rfl)) dX4_step_118 ⟨Nat.zero_le _, Nat.zero_le _⟩) hS (fun q _ h => hFc q h) hFc (fun u t H1 locs ht hvm hw hB hz1 hk1 hS => ?_)
                  obtain ⟨hP, hD⟩ := wJn ht hFc hB.1 hB.2.2
                  rw [hw] at hP hD
                  generalize H1 = H at hP hS ⊢
                  exact w_X4_step_121 C0 hK hA Z (rs_X4_goIfZero S x2) hok hZ _ _ hP hD hS _ (lv_sub hl [] rfl)
                · have hok := okF hok c_10_k11
                  have hZ := rsF hZ c_10_k11
                  by_cases c_10_k12 : x1 = 12
                  · have hok := okT hok c_10_k12
                    have hZ := rsT hZ c_10_k12
                    refine lv_tableIn (off := 123) (tgt := 124) hx hb dX4_step_1 (by rw [c_10_k12]; decide) (by rw [c_10_k12]; decide) (by rw [c_10_k12]; rfl) (by decide) ?_
                    refine lv_aload_n hx hb dX4_step_124 rfl (lv_at hl 0 rfl) ?_
                    refine lv_bipush (v := 16) hx hb dX4_step_125 (by decide) ?_
                    refine va_put (D := (dC, dI)) (ci := 3) (v := .int 16) (ty := .int) (C := RX4) (T := TX4) (N := 6) hx hb hts iX4_step_X4 tyX4 tyX4_ok nmX4 hown hK hP hD hS 26 rfl rfl 3 (by decide) (hts (.fieldLink RX4 28 "RiskHouse$Machine" "at" "I") (by decide +kernel)) (fun _ h9 => h9) rfl (by decide +kernel) rfl rfl (Nat.le_of_ble_eq_true rfl) dX4_step_127 (fun H locs hP hD hS => ?_)
                    have hP : va_P (dC, dI) vwCl (cW cI cZ a (sI S 1043 16)) H := hP
                    have hD : va_D A (cW cI cZ a (sI S 1043 16)) := hD
                    refine lv_goto (tgt := 154) hx hb dX4_step_130 (by decide) ?_
                    exact W.vret hx hb hr (fun t ht hW => ⟨⟨(sI S 1043 16), rfl, hZ, by rw [ht]; exact hP, va_K.moved hW.alike hK, hD⟩, hS.F ht⟩) hS.2.2 dX4_step_154 hlocks
                  · have hok := okF hok c_10_k12
                    have hZ := rsF hZ c_10_k12
                    by_cases c_10_d4 : x1 = 4
                    · refine lv_tableIn (off := 148) (tgt := 149) hx hb dX4_step_1 (by rw [c_10_d4]; decide) (by rw [c_10_d4]; decide) (by rw [c_10_d4]; rfl) (by decide) ?_
                      exact w_X4_step_149 C0 hK hA Z S x1 hok hZ _ _ hP hD hS _ (lv_sub hl [0, 1] rfl)
                    · skip
                      by_cases c_10_d5 : x1 = 5
                      · refine lv_tableIn (off := 148) (tgt := 149) hx hb dX4_step_1 (by rw [c_10_d5]; decide) (by rw [c_10_d5]; decide) (by rw [c_10_d5]; rfl) (by decide) ?_
                        exact w_X4_step_149 C0 hK hA Z S x1 hok hZ _ _ hP hD hS _ (lv_sub hl [0, 1] rfl)
                      · skip
                        by_cases c_10_d6 : x1 = 6
                        · refine lv_tableIn (off := 148) (tgt := 149) hx hb dX4_step_1 (by rw [c_10_d6]; decide) (by rw [c_10_d6]; decide) (by rw [c_10_d6]; rfl) (by decide) ?_
                          exact w_X4_step_149 C0 hK hA Z S x1 hok hZ _ _ hP hD hS _ (lv_sub hl [0, 1] rfl)
                        · skip
                          by_cases c_10_d9 : x1 = 9
                          · refine lv_tableIn (off := 148) (tgt := 149) hx hb dX4_step_1 (by rw [c_10_d9]; decide) (by rw [c_10_d9]; decide) (by rw [c_10_d9]; rfl) (by decide) ?_
                            exact w_X4_step_149 C0 hK hA Z S x1 hok hZ _ _ hP hD hS _ (lv_sub hl [0, 1] rfl)
                          · skip
                            refine lv_tableOut (tgt := 149) hx hb dX4_step_1 (by have q0 := lv_neT (a := 0) c_10_k0 (by decide); have q1 := lv_neT (a := 1) c_10_k1 (by decide); have q2 := lv_neT (a := 2) c_10_k2 (by decide); have q3 := lv_neT (a := 3) c_10_k3 (by decide); have q4 := lv_neT (a := 7) c_10_k7 (by decide); have q5 := lv_neT (a := 8) c_10_k8 (by decide); have q6 := lv_neT (a := 10) c_10_k10 (by decide); have q7 := lv_neT (a := 11) c_10_k11 (by decide); have q8 := lv_neT (a := 12) c_10_k12 (by decide); have q9 := lv_neT (a := 4) c_10_d4 (by decide); have q10 := lv_neT (a := 5) c_10_d5 (by decide); have q11 := lv_neT (a := 6) c_10_d6 (by decide); have q12 := lv_neT (a := 9) c_10_d9 (by decide); omega) (by decide) ?_
                            exact w_X4_step_149 C0 hK hA Z S x1 hok hZ _ _ hP hD hS _ (lv_sub hl [0, 1] rfl)
set_option maxHeartbeats 4000000 in
set_option maxRecDepth 100000 in
theorem c_X4_step (l : Launch) (dC : Nat → ClassId) (dI : Nat → Nat → Nat) (cI cZ : ClassId) (a : Nat → Nat) (sz : Nat) (S : St) (x1 : Int32) (x2 : Int32) (x3 : Int32) (hok : ok_X4_step S x1 x2 x3) : Met l yX4_step wsX4_step rm_X4_step (va_Pc [.ref (a 26), .int x1, .int x2, .int x3, .ref (a 1), .ref (a 12)] (cWP dC dI cI cZ a sz S)) (va_Qv (fun u : St => u = rs_X4_step S x1 x2 x3) (cWB dC dI cI cZ a (va_A (cW cI cZ a S) sz)) (va_A (cW cI cZ a S) sz)) 0 0 (va_A (cW cI cZ a S) sz) := by
  refine Met.ofW (cc := cX4_step) (maxL := 6) (ret := none) (by decide) rfl ?_
  intro p e s m args below meth c s₁ B hml hv
  obtain ⟨rfl, hsz, hP, hK, hD0⟩ := hv
  subst hsz
  have hD := hD0.self (sz := s.heap.size)
  have hl := lv_entry ([.ref (a 26), .int x1, .int x2, .int x3, .ref (a 1), .ref (a 12)]) (n := 6) (Nat.le_of_ble_eq_true rfl)
  rw [lg_entry_eq]
  generalize (lg_sl ([.ref (a 26), .int x1, .int x2, .int x3, .ref (a 1), .ref (a 12)]) ++ List.replicate (6 - (lg_sl ([.ref (a 26), .int x1, .int x2, .int x3, .ref (a 1), .ref (a 12)])).length) Slot.unset).toArray = ls at hl ⊢
  have hl : lv_has ls 6 [(0, .ref (a 26)), (1, .int x1), (2, .int x2), (3, .int x3), (4, .ref (a 1)), (5, .ref (a 12))] := hl
  exact w_X4_step ⟨B.exec, B.bytes, B.returns, hml, findClass_of_methodNamed B.named, atoms_spec (ws := wsX4_step) B.pre, B.notSynchronized⟩ hK (fun q h => Or.inr h) _ S x1 x2 x3 hok rfl _ _ hP hD va_S.rf ls hl
abbrev rm_X4_run : Room := { frames := 3, cells := 0, slots := 0, locals := 69 }
theorem iX4_run_X4 : ∀ w ∈ wsX40, w ∈ wsX4_run := by decide +kernel
theorem iX4_run_X5 : ∀ w ∈ wsX50, w ∈ wsX4_run := by decide +kernel
def rs_X4_run_97 (k : St → Int32 → Int32 → Int32 → Int32 → St) (S : St) (x5 : Int32) (x6 : Int32) (x7 : Int32) (x8 : Int32) : St := (k S x5 x6 x7 (x8 + 1))
def ok_X4_run_97 (kk : St → Int32 → Int32 → Int32 → Int32 → Prop) (S : St) (x5 : Int32) (x6 : Int32) (x7 : Int32) (x8 : Int32) : Prop := kk S x5 x6 x7 (x8 + 1)
set_option maxHeartbeats 4000000 in
set_option maxRecDepth 100000 in
theorem w_X4_run_97 {p : Program} {l : Launch} {e : Env} {s : State} {m : MethodId} {args : Array Value} {below : List Frame} {meth : Method} {c : Code} {dC : Nat → ClassId} {dI : Nat → Nat → Nat} {cI cZ : ClassId} {a : Nat → Nat} {A : Nat → Prop} (C0 : Cx p s m args meth c RX4 cX4_run none 9 wsX4_run) (hK : va_K (dC, dI) vwCl (tI cI cZ) s) (hA : ∀ q, s.heap.size ≤ q → A q) (Z : St) (k : St → Int32 → Int32 → Int32 → Int32 → St) (kk : St → Int32 → Int32 → Int32 → Int32 → Prop) (hk : ∀ (S : St) (x5 : Int32) (x6 : Int32) (x7 : Int32) (x8 : Int32) (hok : kk S x5 x6 x7 x8) (hZ : k S x5 x6 x7 x8 = Z) (H : Heap) (locs : List Loc) (hP : va_P (dC, dI) vwCl (cW cI cZ a S) H) (hD : va_D A (cW cI cZ a S)) (hS : va_S A s.heap H locs) (ls : Array Slot) (hl : lv_has ls 9 [(0, .ref (a 26)), (1, .ref (a 3)), (3, .ref (a 1)), (4, .ref (a 12)), (5, .int x5), (6, .int x6), (7, .int x7), (8, .int x8)]), W p l e rm_X4_run s m args below meth c H locs 0 0 (MQ below (va_Qv (fun u : St => u = Z) (cWB dC dI cI cZ a A) A) args s 0 0 A) (F0 m 29 ls [])) (S : St) (x5 : Int32) (x6 : Int32) (x7 : Int32) (x8 : Int32) (hok : ok_X4_run_97 kk S x5 x6 x7 x8) (hZ : rs_X4_run_97 k S x5 x6 x7 x8 = Z) (H : Heap) (locs : List Loc) (hP : va_P (dC, dI) vwCl (cW cI cZ a S) H) (hD : va_D A (cW cI cZ a S)) (hS : va_S A s.heap H locs) (ls : Array Slot) (hl : lv_has ls 9 [(0, .ref (a 26)), (1, .ref (a 3)), (3, .ref (a 1)), (4, .ref (a 12)), (5, .int x5), (6, .int x6), (7, .int x7), (8, .int x8)]) : W p l e rm_X4_run s m args below meth c H locs 0 0 (MQ below (va_Qv (fun u : St => u = Z) (cWB dC dI cI cZ a A) A) args s 0 0 A) (F0 m 97 ls []) := by
  obtain ⟨hx, hb, hr, hml, hown, hts, hlocks⟩ := id C0
  rw [ok_X4_run_97] at hok
  rw [rs_X4_run_97] at hZ
  refine lv_iinc (v := (x8 + 1)) (lv' := [(8, .int (x8 + 1)), (0, .ref (a 26)), (1, .ref (a 3)), (3, .ref (a 1)), (4, .ref (a 12)), (5, .int x5), (6, .int x6), (7, .int x7)]) hx hb dX4_run_97 hl (k := 7) rfl rfl (by decide) rfl (fun ls hl => ?_)
  refine lv_goto (tgt := 29) hx hb dX4_run_100 (by decide) ?_
  exact hk S x5 x6 x7 (x8 + 1) hok hZ _ _ hP hD hS _ (lv_sub hl [1, 2, 3, 4, 5, 6, 7, 0] rfl)
def rs_X4_run_103 (S : St) (x6 : Int32) : St := (if x6 ≤ (S.1 1043) then S else (if (S.1 1045) = 0 then (sI S 1045 1) else S))
def ok_X4_run_103 (S : St) (x6 : Int32) : Prop := (if x6 ≤ (S.1 1043) then True else (if (S.1 1045) = 0 then True else True))
set_option maxHeartbeats 4000000 in
set_option maxRecDepth 100000 in
theorem w_X4_run_103 {p : Program} {l : Launch} {e : Env} {s : State} {m : MethodId} {args : Array Value} {below : List Frame} {meth : Method} {c : Code} {dC : Nat → ClassId} {dI : Nat → Nat → Nat} {cI cZ : ClassId} {a : Nat → Nat} {A : Nat → Prop} (C0 : Cx p s m args meth c RX4 cX4_run none 9 wsX4_run) (hK : va_K (dC, dI) vwCl (tI cI cZ) s) (hA : ∀ q, s.heap.size ≤ q → A q) (Z : St) (S : St) (x6 : Int32) (hok : ok_X4_run_103 S x6) (hZ : rs_X4_run_103 S x6 = Z) (H : Heap) (locs : List Loc) (hP : va_P (dC, dI) vwCl (cW cI cZ a S) H) (hD : va_D A (cW cI cZ a S)) (hS : va_S A s.heap H locs) (ls : Array Slot) (hl : lv_has ls 9 [(0, .ref (a 26)), (6, .int x6)]) : W p l e rm_X4_run s m args below meth c H locs 0 0 (MQ below (va_Qv (fun u : St => u = Z) (cWB dC dI cI cZ a A) A) args s 0 0 A) (F0 m 103 ls []) := by
  obtain ⟨hx, hb, hr, hml, hown, hts, hlocks⟩ := id C0
  rw [ok_X4_run_103] at hok
  rw [rs_X4_run_103] at hZ
  refine lv_aload_n hx hb dX4_run_103 rfl (lv_at hl 0 rfl) ?_
  refine va_get (D := (dC, dI)) (ci := 3) (v := .int (S.1 1043)) (C := RX4) (T := TX4) (N := 6) hx hb hts iX4_run_X4 hown hK hP 26 rfl rfl 3 (by decide) (hts (.fieldLink RX4 28 "RiskHouse$Machine" "at" "I") (by decide +kernel)) (fun _ h9 => h9) rfl dX4_run_104 ?_
  refine lv_iload hx hb dX4_run_107 (lv_at hl 1 rfl) ?_
  refine lv_icmp_ge (tgt := 124) hx hb dX4_run_109 (by decide) (fun c_1 => ?_) (fun c_1 => ?_)
  · have hok := okT hok c_1
    have hZ := rsT hZ c_1
    exact W.vret hx hb hr (fun t ht hW => ⟨⟨S, rfl, hZ, by rw [ht]; exact hP, va_K.moved hW.alike hK, hD⟩, hS.F ht⟩) hS.2.2 dX4_run_124 hlocks
  · have hok := okF hok c_1
    have hZ := rsF hZ c_1
    refine lv_aload_n hx hb dX4_run_112 rfl (lv_at hl 0 rfl) ?_
    refine va_get (D := (dC, dI)) (ci := 3) (v := .int (S.1 1045)) (C := RX4) (T := TX4) (N := 6) hx hb hts iX4_run_X4 hown hK hP 26 rfl rfl 5 (by decide) (hts (.fieldLink RX4 31 "RiskHouse$Machine" "failure" "I") (by decide +kernel)) (fun _ h9 => h9) rfl dX4_run_113 ?_
    refine lv_if_ne (tgt := 124) hx hb dX4_run_116 (by decide) (fun c_2 => ?_) (fun c_2 => ?_)
    · have hok := okF hok c_2
      have hZ := rsF hZ c_2
      exact W.vret hx hb hr (fun t ht hW => ⟨⟨S, rfl, hZ, by rw [ht]; exact hP, va_K.moved hW.alike hK, hD⟩, hS.F ht⟩) hS.2.2 dX4_run_124 hlocks
    · have hok := okT hok c_2
      have hZ := rsT hZ c_2
      refine lv_aload_n hx hb dX4_run_119 rfl (lv_at hl 0 rfl) ?_
      refine lv_iconst (v := 1) hx hb dX4_run_120 (by decide) ?_
      refine va_put (D := (dC, dI)) (ci := 3) (v := .int 1) (ty := .int) (C := RX4) (T := TX4) (N := 6) hx hb hts iX4_run_X4 tyX4 tyX4_ok nmX4 hown hK hP hD hS 26 rfl rfl 5 (by decide) (hts (.fieldLink RX4 31 "RiskHouse$Machine" "failure" "I") (by decide +kernel)) (fun _ h9 => h9) rfl (by decide +kernel) rfl rfl (Nat.le_of_ble_eq_true rfl) dX4_run_121 (fun H locs hP hD hS => ?_)
      have hP : va_P (dC, dI) vwCl (cW cI cZ a (sI S 1045 1)) H := hP
      have hD : va_D A (cW cI cZ a (sI S 1045 1)) := hD
      exact W.vret hx hb hr (fun t ht hW => ⟨⟨(sI S 1045 1), rfl, hZ, by rw [ht]; exact hP, va_K.moved hW.alike hK, hD⟩, hS.F ht⟩) hS.2.2 dX4_run_124 hlocks
def rs_X4_run_29 : Nat → St → Int32 → Int32 → Int32 → Int32 → St
  | 0, S, x5, x6, x7, x8 => S
  | n + 1, S, x5, x6, x7, x8 => (if (S.1 1040) ≤ x8 then (rs_X4_run_103 S x6) else (if x6 ≤ (S.1 1043) then (rs_X4_run_103 S x6) else (if (S.1 1045) = 0 then (rs_X4_run_97 (rs_X4_run_29 n) (rs_X4_step (sI S 1044 ((S.1 1044) + 1)) ((S.2 9) (x5 + (S.1 1043)).toNatClampNeg) ((S.2 10) (x5 + (S.1 1043)).toNatClampNeg) x7) x5 x6 x7 x8) else (rs_X4_run_103 S x6))))
def ok_X4_run_29 : Nat → St → Int32 → Int32 → Int32 → Int32 → Prop
  | 0, _, _, _, _, _ => False
  | n + 1, S, x5, x6, x7, x8 => (if (S.1 1040) ≤ x8 then ok_X4_run_103 S x6 else (if x6 ≤ (S.1 1043) then ok_X4_run_103 S x6 else (if (S.1 1045) = 0 then ((vp_in (x5 + (S.1 1043)) 192) ∧ ((vp_in (x5 + (S.1 1043)) 192) ∧ ((ok_X4_step (sI S 1044 ((S.1 1044) + 1)) ((S.2 9) (x5 + (S.1 1043)).toNatClampNeg) ((S.2 10) (x5 + (S.1 1043)).toNatClampNeg) x7) ∧ ok_X4_run_97 (ok_X4_run_29 n) (rs_X4_step (sI S 1044 ((S.1 1044) + 1)) ((S.2 9) (x5 + (S.1 1043)).toNatClampNeg) ((S.2 10) (x5 + (S.1 1043)).toNatClampNeg) x7) x5 x6 x7 x8))) else ok_X4_run_103 S x6)))
set_option maxHeartbeats 4000000 in
set_option maxRecDepth 100000 in
theorem w_X4_run_29 {p : Program} {l : Launch} {e : Env} {s : State} {m : MethodId} {args : Array Value} {below : List Frame} {meth : Method} {c : Code} {dC : Nat → ClassId} {dI : Nat → Nat → Nat} {cI cZ : ClassId} {a : Nat → Nat} {A : Nat → Prop} (C0 : Cx p s m args meth c RX4 cX4_run none 9 wsX4_run) (hK : va_K (dC, dI) vwCl (tI cI cZ) s) (hA : ∀ q, s.heap.size ≤ q → A q) (Z : St) : ∀ (n : Nat) (S : St) (x5 : Int32) (x6 : Int32) (x7 : Int32) (x8 : Int32) (hok : ok_X4_run_29 n S x5 x6 x7 x8) (hZ : rs_X4_run_29 n S x5 x6 x7 x8 = Z) (H : Heap) (locs : List Loc) (hP : va_P (dC, dI) vwCl (cW cI cZ a S) H) (hD : va_D A (cW cI cZ a S)) (hS : va_S A s.heap H locs) (ls : Array Slot) (hl : lv_has ls 9 [(0, .ref (a 26)), (1, .ref (a 3)), (3, .ref (a 1)), (4, .ref (a 12)), (5, .int x5), (6, .int x6), (7, .int x7), (8, .int x8)]), W p l e rm_X4_run s m args below meth c H locs 0 0 (MQ below (va_Qv (fun u : St => u = Z) (cWB dC dI cI cZ a A) A) args s 0 0 A) (F0 m 29 ls []) := by
  obtain ⟨hx, hb, hr, hml, hown, hts, hlocks⟩ := id C0
  intro n
  induction n with
  | zero => intro S x5 x6 x7 x8 hok; exact absurd hok (fun h => h)
  | succ n ih =>
    intro S x5 x6 x7 x8 hok hZ H locs hP hD hS ls hl
    rw [ok_X4_run_29] at hok
    rw [rs_X4_run_29] at hZ
    refine lv_iload hx hb dX4_run_29 (lv_at hl 7 rfl) ?_
    refine lv_aload_n hx hb dX4_run_31 rfl (lv_at hl 0 rfl) ?_
    refine va_get (D := (dC, dI)) (ci := 3) (v := .int (S.1 1040)) (C := RX4) (T := TX4) (N := 6) hx hb hts iX4_run_X4 hown hK hP 26 rfl rfl 0 (by decide) (hts (.fieldLink RX4 13 "RiskHouse$Machine" "limit" "I") (by decide +kernel)) (fun _ h9 => h9) rfl dX4_run_32 ?_
    refine lv_icmp_ge (tgt := 103) hx hb dX4_run_35 (by decide) (fun c_1 => ?_) (fun c_1 => ?_)
    · have hok := okT hok c_1
      have hZ := rsT hZ c_1
      exact w_X4_run_103 C0 hK hA Z S x6 hok hZ _ _ hP hD hS _ (lv_sub hl [0, 5] rfl)
    · have hok := okF hok c_1
      have hZ := rsF hZ c_1
      refine lv_aload_n hx hb dX4_run_38 rfl (lv_at hl 0 rfl) ?_
      refine va_get (D := (dC, dI)) (ci := 3) (v := .int (S.1 1043)) (C := RX4) (T := TX4) (N := 6) hx hb hts iX4_run_X4 hown hK hP 26 rfl rfl 3 (by decide) (hts (.fieldLink RX4 28 "RiskHouse$Machine" "at" "I") (by decide +kernel)) (fun _ h9 => h9) rfl dX4_run_39 ?_
      refine lv_iload hx hb dX4_run_42 (lv_at hl 5 rfl) ?_
      refine lv_icmp_ge (tgt := 103) hx hb dX4_run_44 (by decide) (fun c_2 => ?_) (fun c_2 => ?_)
      · have hok := okT hok c_2
        have hZ := rsT hZ c_2
        exact w_X4_run_103 C0 hK hA Z S x6 hok hZ _ _ hP hD hS _ (lv_sub hl [0, 5] rfl)
      · have hok := okF hok c_2
        have hZ := rsF hZ c_2
        refine lv_aload_n hx hb dX4_run_47 rfl (lv_at hl 0 rfl) ?_
        refine va_get (D := (dC, dI)) (ci := 3) (v := .int (S.1 1045)) (C := RX4) (T := TX4) (N := 6) hx hb hts iX4_run_X4 hown hK hP 26 rfl rfl 5 (by decide) (hts (.fieldLink RX4 31 "RiskHouse$Machine" "failure" "I") (by decide +kernel)) (fun _ h9 => h9) rfl dX4_run_48 ?_
        refine lv_if_ne (tgt := 103) hx hb dX4_run_51 (by decide) (fun c_3 => ?_) (fun c_3 => ?_)
        · have hok := okF hok c_3
          have hZ := rsF hZ c_3
          exact w_X4_run_103 C0 hK hA Z S x6 hok hZ _ _ hP hD hS _ (lv_sub hl [0, 5] rfl)
        · have hok := okT hok c_3
          have hZ := rsT hZ c_3
          refine lv_aload_n hx hb dX4_run_54 rfl (lv_at hl 0 rfl) ?_
          refine lv_dup hx hb dX4_run_55 rfl ?_
          refine va_get (D := (dC, dI)) (ci := 3) (v := .int (S.1 1044)) (C := RX4) (T := TX4) (N := 6) hx hb hts iX4_run_X4 hown hK hP 26 rfl rfl 4 (by decide) (hts (.fieldLink RX4 34 "RiskHouse$Machine" "steps" "I") (by decide +kernel)) (fun _ h9 => h9) rfl dX4_run_56 ?_
          refine lv_iconst (v := 1) hx hb dX4_run_59 (by decide) ?_
          refine lv_iadd hx hb dX4_run_60 ?_
          refine va_put (D := (dC, dI)) (ci := 3) (v := .int ((S.1 1044) + 1)) (ty := .int) (C := RX4) (T := TX4) (N := 6) hx hb hts iX4_run_X4 tyX4 tyX4_ok nmX4 hown hK hP hD hS 26 rfl rfl 4 (by decide) (hts (.fieldLink RX4 34 "RiskHouse$Machine" "steps" "I") (by decide +kernel)) (fun _ h9 => h9) rfl (by decide +kernel) rfl rfl (Nat.le_of_ble_eq_true rfl) dX4_run_61 (fun H locs hP hD hS => ?_)
          have hP : va_P (dC, dI) vwCl (cW cI cZ a (sI S 1044 ((S.1 1044) + 1))) H := hP
          have hD : va_D A (cW cI cZ a (sI S 1044 ((S.1 1044) + 1))) := hD
          refine lv_aload_n hx hb dX4_run_64 rfl (lv_at hl 0 rfl) ?_
          refine lv_aload_n hx hb dX4_run_65 rfl (lv_at hl 1 rfl) ?_
          refine va_get (D := (dC, dI)) (ci := 4) (v := .ref (a 9)) (C := RX5) (T := TX5) (N := 8) hx hb hts iX4_run_X5 hown hK hP 3 rfl rfl 5 (by decide) (hts (.fieldLink RX4 37 "RiskHouse$Rules" "codes" "[I") (by decide +kernel)) (fun _ h9 => h9) rfl dX4_run_66 ?_
          refine lv_iload hx hb dX4_run_69 (lv_at hl 4 rfl) ?_
          refine lv_aload_n hx hb dX4_run_71 rfl (lv_at hl 0 rfl) ?_
          refine va_get (D := (dC, dI)) (ci := 3) (v := .int (S.1 1043)) (C := RX4) (T := TX4) (N := 6) hx hb hts iX4_run_X4 hown hK hP 26 rfl rfl 3 (by decide) (hts (.fieldLink RX4 28 "RiskHouse$Machine" "at" "I") (by decide +kernel)) (fun _ h9 => h9) rfl dX4_run_72 ?_
          refine lv_iadd hx hb dX4_run_75 ?_
          obtain ⟨h_4, hok⟩ := hok
          refine va_iald (f := (S.2 9)) hx hb hK hP 9 0 rfl rfl h_4 dX4_run_76 ?_
          refine lv_aload_n hx hb dX4_run_77 rfl (lv_at hl 1 rfl) ?_
          refine va_get (D := (dC, dI)) (ci := 4) (v := .ref (a 10)) (C := RX5) (T := TX5) (N := 8) hx hb hts iX4_run_X5 hown hK hP 3 rfl rfl 6 (by decide) (hts (.fieldLink RX4 40 "RiskHouse$Rules" "numbers" "[I") (by decide +kernel)) (fun _ h9 => h9) rfl dX4_run_78 ?_
          refine lv_iload hx hb dX4_run_81 (lv_at hl 4 rfl) ?_
          refine lv_aload_n hx hb dX4_run_83 rfl (lv_at hl 0 rfl) ?_
          refine va_get (D := (dC, dI)) (ci := 3) (v := .int (S.1 1043)) (C := RX4) (T := TX4) (N := 6) hx hb hts iX4_run_X4 hown hK hP 26 rfl rfl 3 (by decide) (hts (.fieldLink RX4 28 "RiskHouse$Machine" "at" "I") (by decide +kernel)) (fun _ h9 => h9) rfl dX4_run_84 ?_
          refine lv_iadd hx hb dX4_run_87 ?_
          obtain ⟨h_5, hok⟩ := hok
          refine va_iald (f := (S.2 10)) hx hb hK hP 10 0 rfl rfl h_5 dX4_run_88 ?_
          refine lv_iload hx hb dX4_run_89 (lv_at hl 6 rfl) ?_
          refine lv_aload_n hx hb dX4_run_91 rfl (lv_at hl 2 rfl) ?_
          refine lv_aload hx hb dX4_run_92 (lv_at hl 3 rfl) ?_
          obtain ⟨k_6, hok⟩ := hok
          have hFc := wFw (w := cW cI cZ a (sI S 1044 ((S.1 1044) + 1))) hD hS hA
          refine va_callv (va_runV (As := [.int ((S.2 9) (x5 + (S.1 1043)).toNatClampNeg), .int ((S.2 10) (x5 + (S.1 1043)).toNatClampNeg), .int x7, .ref (a 1), .ref (a 12)]) (rest := []) ⟨hx, hb, hml, hown, hts⟩ (c_X4_step l dC dI cI cZ a H.size (sI S 1044 ((S.1 1044) + 1)) ((S.2 9) (x5 + (S.1 1043)).toNatClampNeg) ((S.2 10) (x5 + (S.1 1043)).toNatClampNeg) x7 k_6) (cwV 5 hts gX4_run_X4_step rfl rfl rfl (by decide +kernel) ⟨Nat.le_of_ble_eq_true rfl, Nat.le_of_ble_eq_true rfl⟩) ⟨wBl, va_recv hK hP (ci := 3) (q0 := 26) rfl rfl, fun U hU hW => ⟨rfl, by rw [hU], by rw [hU]; exact hP, va_K.moved hW.alike hK, hD.weaken (fun _ _ _ _ => trivial)⟩⟩ rfl rfl hl.1 rfl (lv_room (Nat.le_of_ble_eq_true rfl)) dX4_run_94 ⟨Nat.zero_le _, Nat.zero_le _⟩) hS (fun q _ h => hFc q h) hFc (fun u t H1 locs ht hvm hw hB hz1 hk1 hS => ?_)
          obtain ⟨hP, hD⟩ := wJn ht hFc hB.1 hB.2.2
          rw [hw] at hP hD
          generalize H1 = H at hP hS ⊢
          exact w_X4_run_97 C0 hK hA Z (rs_X4_run_29 n) (ok_X4_run_29 n) ih (rs_X4_step (sI S 1044 ((S.1 1044) + 1)) ((S.2 9) (x5 + (S.1 1043)).toNatClampNeg) ((S.2 10) (x5 + (S.1 1043)).toNatClampNeg) x7) x5 x6 x7 x8 hok hZ _ _ hP hD hS _ (lv_sub hl [0, 1, 2, 3, 4, 5, 6, 7] rfl)
def rs_X4_run_26 (S : St) (x5 : Int32) (x6 : Int32) (x7 : Int32) : St := (rs_X4_run_29 66000 S x5 x6 x7 0)
def ok_X4_run_26 (S : St) (x5 : Int32) (x6 : Int32) (x7 : Int32) : Prop := ok_X4_run_29 66000 S x5 x6 x7 0
set_option maxHeartbeats 4000000 in
set_option maxRecDepth 100000 in
theorem w_X4_run_26 {p : Program} {l : Launch} {e : Env} {s : State} {m : MethodId} {args : Array Value} {below : List Frame} {meth : Method} {c : Code} {dC : Nat → ClassId} {dI : Nat → Nat → Nat} {cI cZ : ClassId} {a : Nat → Nat} {A : Nat → Prop} (C0 : Cx p s m args meth c RX4 cX4_run none 9 wsX4_run) (hK : va_K (dC, dI) vwCl (tI cI cZ) s) (hA : ∀ q, s.heap.size ≤ q → A q) (Z : St) (S : St) (x5 : Int32) (x6 : Int32) (x7 : Int32) (hok : ok_X4_run_26 S x5 x6 x7) (hZ : rs_X4_run_26 S x5 x6 x7 = Z) (H : Heap) (locs : List Loc) (hP : va_P (dC, dI) vwCl (cW cI cZ a S) H) (hD : va_D A (cW cI cZ a S)) (hS : va_S A s.heap H locs) (ls : Array Slot) (hl : lv_has ls 9 [(0, .ref (a 26)), (1, .ref (a 3)), (3, .ref (a 1)), (4, .ref (a 12)), (5, .int x5), (6, .int x6), (7, .int x7)]) : W p l e rm_X4_run s m args below meth c H locs 0 0 (MQ below (va_Qv (fun u : St => u = Z) (cWB dC dI cI cZ a A) A) args s 0 0 A) (F0 m 26 ls []) := by
  obtain ⟨hx, hb, hr, hml, hown, hts, hlocks⟩ := id C0
  rw [ok_X4_run_26] at hok
  rw [rs_X4_run_26] at hZ
  refine lv_iconst (v := 0) hx hb dX4_run_26 (by decide) ?_
  refine lv_istore (lv' := [(8, .int 0), (0, .ref (a 26)), (1, .ref (a 3)), (3, .ref (a 1)), (4, .ref (a 12)), (5, .int x5), (6, .int x6), (7, .int x7)]) hx hb dX4_run_27 hl (by decide) rfl (fun ls hl => ?_)
  exact w_X4_run_29 C0 hK hA Z 66000 S x5 x6 x7 0 hok hZ _ _ hP hD hS _ (lv_sub hl [1, 2, 3, 4, 5, 6, 7, 0] rfl)
def rs_X4_run (S : St) (x2 : Int32) : St := (rs_X4_run_26 (rs_X4_begin S) (x2 * 16) ((S.2 6) x2.toNatClampNeg) ((S.2 4) x2.toNatClampNeg))
def ok_X4_run (S : St) (x2 : Int32) : Prop := ((vp_in x2 12) ∧ ((vp_in x2 12) ∧ ((ok_X4_begin S ) ∧ ok_X4_run_26 (rs_X4_begin S) (x2 * 16) ((S.2 6) x2.toNatClampNeg) ((S.2 4) x2.toNatClampNeg))))
set_option maxHeartbeats 4000000 in
set_option maxRecDepth 100000 in
theorem w_X4_run {p : Program} {l : Launch} {e : Env} {s : State} {m : MethodId} {args : Array Value} {below : List Frame} {meth : Method} {c : Code} {dC : Nat → ClassId} {dI : Nat → Nat → Nat} {cI cZ : ClassId} {a : Nat → Nat} {A : Nat → Prop} (C0 : Cx p s m args meth c RX4 cX4_run none 9 wsX4_run) (hK : va_K (dC, dI) vwCl (tI cI cZ) s) (hA : ∀ q, s.heap.size ≤ q → A q) (Z : St) (S : St) (x2 : Int32) (hok : ok_X4_run S x2) (hZ : rs_X4_run S x2 = Z) (H : Heap) (locs : List Loc) (hP : va_P (dC, dI) vwCl (cW cI cZ a S) H) (hD : va_D A (cW cI cZ a S)) (hS : va_S A s.heap H locs) (ls : Array Slot) (hl : lv_has ls 9 [(0, .ref (a 26)), (1, .ref (a 3)), (2, .int x2), (3, .ref (a 1)), (4, .ref (a 12))]) : W p l e rm_X4_run s m args below meth c H locs 0 0 (MQ below (va_Qv (fun u : St => u = Z) (cWB dC dI cI cZ a A) A) args s 0 0 A) (F0 m 0 ls []) := by
  obtain ⟨hx, hb, hr, hml, hown, hts, hlocks⟩ := id C0
  rw [ok_X4_run] at hok
  rw [rs_X4_run] at hZ
  refine lv_iload_n hx hb dX4_run_0 rfl (lv_at hl 2 rfl) ?_
  refine lv_bipush (v := 16) hx hb dX4_run_1 (by decide) ?_
  refine lv_imul hx hb dX4_run_3 ?_
  refine lv_istore (lv' := [(5, .int (x2 * 16)), (0, .ref (a 26)), (1, .ref (a 3)), (2, .int x2), (3, .ref (a 1)), (4, .ref (a 12))]) hx hb dX4_run_4 hl (by decide) rfl (fun ls hl => ?_)
  refine lv_aload_n hx hb dX4_run_6 rfl (lv_at hl 2 rfl) ?_
  refine va_get (D := (dC, dI)) (ci := 4) (v := .ref (a 6)) (C := RX5) (T := TX5) (N := 8) hx hb hts iX4_run_X5 hown hK hP 3 rfl rfl 2 (by decide) (hts (.fieldLink RX4 19 "RiskHouse$Rules" "length" "[I") (by decide +kernel)) (fun _ h9 => h9) rfl dX4_run_7 ?_
  refine lv_iload_n hx hb dX4_run_10 rfl (lv_at hl 3 rfl) ?_
  obtain ⟨h_1, hok⟩ := hok
  refine va_iald (f := (S.2 6)) hx hb hK hP 6 0 rfl rfl h_1 dX4_run_11 ?_
  refine lv_istore (lv' := [(6, .int ((S.2 6) x2.toNatClampNeg)), (5, .int (x2 * 16)), (0, .ref (a 26)), (1, .ref (a 3)), (2, .int x2), (3, .ref (a 1)), (4, .ref (a 12))]) hx hb dX4_run_12 hl (by decide) rfl (fun ls hl => ?_)
  refine lv_aload_n hx hb dX4_run_14 rfl (lv_at hl 3 rfl) ?_
  refine va_get (D := (dC, dI)) (ci := 4) (v := .ref (a 4)) (C := RX5) (T := TX5) (N := 8) hx hb hts iX4_run_X5 hown hK hP 3 rfl rfl 0 (by decide) (hts (.fieldLink RX4 22 "RiskHouse$Rules" "edition" "[I") (by decide +kernel)) (fun _ h9 => h9) rfl dX4_run_15 ?_
  refine lv_iload_n hx hb dX4_run_18 rfl (lv_at hl 4 rfl) ?_
  obtain ⟨h_2, hok⟩ := hok
  refine va_iald (f := (S.2 4)) hx hb hK hP 4 0 rfl rfl h_2 dX4_run_19 ?_
  refine lv_istore (lv' := [(7, .int ((S.2 4) x2.toNatClampNeg)), (6, .int ((S.2 6) x2.toNatClampNeg)), (5, .int (x2 * 16)), (0, .ref (a 26)), (1, .ref (a 3)), (2, .int x2), (3, .ref (a 1)), (4, .ref (a 12))]) hx hb dX4_run_20 hl (by decide) rfl (fun ls hl => ?_)
  refine lv_aload_n hx hb dX4_run_22 rfl (lv_at hl 3 rfl) ?_
  obtain ⟨k_3, hok⟩ := hok
  have hFc := wFw (w := cW cI cZ a S) hD hS hA
  refine va_callv (va_runV (As := []) (rest := []) ⟨hx, hb, hml, hown, hts⟩ (c_X4_begin l dC dI cI cZ a H.size S  k_3) (cwV 0 hts gX4_run_X4_begin rfl rfl rfl (by decide +kernel) ⟨Nat.le_of_ble_eq_true rfl, Nat.le_of_ble_eq_true rfl⟩) ⟨wBl, va_recv hK hP (ci := 3) (q0 := 26) rfl rfl, fun U hU hW => ⟨rfl, by rw [hU], by rw [hU]; exact hP, va_K.moved hW.alike hK, hD.weaken (fun _ _ _ _ => trivial)⟩⟩ rfl rfl hl.1 rfl (lv_room (Nat.le_of_ble_eq_true rfl)) dX4_run_23 ⟨Nat.zero_le _, Nat.zero_le _⟩) hS (fun q _ h => hFc q h) hFc (fun u t H1 locs ht hvm hw hB hz1 hk1 hS => ?_)
  obtain ⟨hP, hD⟩ := wJn ht hFc hB.1 hB.2.2
  rw [hw] at hP hD
  generalize H1 = H at hP hS ⊢
  exact w_X4_run_26 C0 hK hA Z (rs_X4_begin S) (x2 * 16) ((S.2 6) x2.toNatClampNeg) ((S.2 4) x2.toNatClampNeg) hok hZ _ _ hP hD hS _ (lv_sub hl [3, 4, 6, 7, 2, 1, 0] rfl)
set_option maxHeartbeats 4000000 in
set_option maxRecDepth 100000 in
theorem c_X4_run (l : Launch) (dC : Nat → ClassId) (dI : Nat → Nat → Nat) (cI cZ : ClassId) (a : Nat → Nat) (sz : Nat) (S : St) (x2 : Int32) (hok : ok_X4_run S x2) : Met l yX4_run wsX4_run rm_X4_run (va_Pc [.ref (a 26), .ref (a 3), .int x2, .ref (a 1), .ref (a 12)] (cWP dC dI cI cZ a sz S)) (va_Qv (fun u : St => u = rs_X4_run S x2) (cWB dC dI cI cZ a (va_A (cW cI cZ a S) sz)) (va_A (cW cI cZ a S) sz)) 0 0 (va_A (cW cI cZ a S) sz) := by
  refine Met.ofW (cc := cX4_run) (maxL := 9) (ret := none) (by decide) rfl ?_
  intro p e s m args below meth c s₁ B hml hv
  obtain ⟨rfl, hsz, hP, hK, hD0⟩ := hv
  subst hsz
  have hD := hD0.self (sz := s.heap.size)
  have hl := lv_entry ([.ref (a 26), .ref (a 3), .int x2, .ref (a 1), .ref (a 12)]) (n := 9) (Nat.le_of_ble_eq_true rfl)
  rw [lg_entry_eq]
  generalize (lg_sl ([.ref (a 26), .ref (a 3), .int x2, .ref (a 1), .ref (a 12)]) ++ List.replicate (9 - (lg_sl ([.ref (a 26), .ref (a 3), .int x2, .ref (a 1), .ref (a 12)])).length) Slot.unset).toArray = ls at hl ⊢
  have hl : lv_has ls 9 [(0, .ref (a 26)), (1, .ref (a 3)), (2, .int x2), (3, .ref (a 1)), (4, .ref (a 12))] := hl
  exact w_X4_run ⟨B.exec, B.bytes, B.returns, hml, findClass_of_methodNamed B.named, atoms_spec (ws := wsX4_run) B.pre, B.notSynchronized⟩ hK (fun q h => Or.inr h) _ S x2 hok rfl _ _ hP hD va_S.rf ls hl
