abbrev rm_X8_thrown : Room := { frames := 0, cells := 0, slots := 0, locals := 0 }
theorem iX8_thrown_X8 : ∀ w ∈ wsX80, w ∈ wsX8_thrown := by decide +kernel
def rs_X8_thrown (S : St)  : Int32 × St := ((S.1 2000), S)
def ok_X8_thrown (S : St)  : Prop := True
set_option maxHeartbeats 4000000 in
set_option maxRecDepth 100000 in
theorem w_X8_thrown {p : Program} {l : Launch} {e : Env} {s : State} {m : MethodId} {args : Array Value} {below : List Frame} {meth : Method} {c : Code} {dC : Nat → ClassId} {dI : Nat → Nat → Nat} {cI cZ : ClassId} {a : Nat → Nat} {A : Nat → Prop} (C0 : Cx p s m args meth c RX8 cX8_thrown (some .int) 1 wsX8_thrown) (hK : va_K (dC, dI) vwCl (tI cI cZ) s) (hA : ∀ q, s.heap.size ≤ q → A q) (Z : Int32 × St) (S : St)  (hok : ok_X8_thrown S) (hZ : rs_X8_thrown S = Z) (H : Heap) (locs : List Loc) (hP : va_P (dC, dI) vwCl (mW cI cZ a S) H) (hD : va_D A (mW cI cZ a S)) (hS : va_S A s.heap H locs) (ls : Array Slot) (hl : lv_has ls 1 [(0, .ref (a 0))]) : W p l e rm_X8_thrown s m args below meth c H locs 0 0 (MQ below (va_Qi (fun (r : Int32) (u : St) => (r, u) = Z) (mWB dC dI cI cZ a A) A) args s 0 0 A) (F0 m 0 ls []) := by
  obtain ⟨hx, hb, hr, hml, hown, hts, hlocks⟩ := id C0
  rw [ok_X8_thrown] at hok
  rw [rs_X8_thrown] at hZ
  refine lv_aload_n hx hb dX8_thrown_0 rfl (lv_at hl 0 rfl) ?_
  refine va_get (D := (dC, dI)) (ci := 7) (v := .int (S.1 2000)) (C := RX8) (T := TX8) (N := 35) hx hb hts iX8_thrown_X8 hown hK hP 0 rfl rfl 0 (by decide) (hts (.fieldLink RX8 88 "RiskHouseModel" "thrown" "I") (by decide +kernel)) (fun _ h9 => h9) rfl dX8_thrown_1 ?_
  exact W.iret (v := (S.1 2000)) hx hb hr (fun t ht hW => ⟨⟨(S.1 2000), S, rfl, hZ, by rw [ht]; exact hP, va_K.moved hW.alike hK, hD⟩, hS.F ht⟩) hS.2.2 dX8_thrown_4 hlocks
set_option maxHeartbeats 4000000 in
set_option maxRecDepth 100000 in
theorem c_X8_thrown (l : Launch) (dC : Nat → ClassId) (dI : Nat → Nat → Nat) (cI cZ : ClassId) (a : Nat → Nat) (sz : Nat) (S : St)  (hok : ok_X8_thrown S) : Met l yX8_thrown wsX8_thrown rm_X8_thrown (va_Pc [.ref (a 0)] (mWP dC dI cI cZ a sz S)) (va_Qi (fun (r : Int32) (u : St) => (r, u) = rs_X8_thrown S) (mWB dC dI cI cZ a (va_A (mW cI cZ a S) sz)) (va_A (mW cI cZ a S) sz)) 0 0 (va_A (mW cI cZ a S) sz) := by
  refine Met.ofW (cc := cX8_thrown) (maxL := 1) (ret := (some .int)) (by decide) rfl ?_
  intro p e s m args below meth c s₁ B hml hv
  obtain ⟨rfl, hsz, hP, hK, hD0⟩ := hv
  subst hsz
  have hD := hD0.self (sz := s.heap.size)
  have hl := lv_entry ([.ref (a 0)]) (n := 1) (Nat.le_of_ble_eq_true rfl)
  rw [lg_entry_eq]
  generalize (lg_sl ([.ref (a 0)]) ++ List.replicate (1 - (lg_sl ([.ref (a 0)])).length) Slot.unset).toArray = ls at hl ⊢
  have hl : lv_has ls 1 [(0, .ref (a 0))] := hl
  exact w_X8_thrown ⟨B.exec, B.bytes, B.returns, hml, findClass_of_methodNamed B.named, atoms_spec (ws := wsX8_thrown) B.pre, B.notSynchronized⟩ hK (fun q h => Or.inr h) _ S hok rfl _ _ hP hD va_S.rf ls hl
abbrev rm_X8_refuse : Room := { frames := 0, cells := 0, slots := 0, locals := 0 }
theorem iX8_refuse_X8 : ∀ w ∈ wsX80, w ∈ wsX8_refuse := by decide +kernel
def rs_X8_refuse (S : St) (x1 : Int32) : Int32 × St := (0, (sI S 2000 x1))
def ok_X8_refuse (S : St) (x1 : Int32) : Prop := True
set_option maxHeartbeats 4000000 in
set_option maxRecDepth 100000 in
theorem w_X8_refuse {p : Program} {l : Launch} {e : Env} {s : State} {m : MethodId} {args : Array Value} {below : List Frame} {meth : Method} {c : Code} {dC : Nat → ClassId} {dI : Nat → Nat → Nat} {cI cZ : ClassId} {a : Nat → Nat} {A : Nat → Prop} (C0 : Cx p s m args meth c RX8 cX8_refuse (some .int) 2 wsX8_refuse) (hK : va_K (dC, dI) vwCl (tI cI cZ) s) (hA : ∀ q, s.heap.size ≤ q → A q) (Z : Int32 × St) (S : St) (x1 : Int32) (hok : ok_X8_refuse S x1) (hZ : rs_X8_refuse S x1 = Z) (H : Heap) (locs : List Loc) (hP : va_P (dC, dI) vwCl (mW cI cZ a S) H) (hD : va_D A (mW cI cZ a S)) (hS : va_S A s.heap H locs) (ls : Array Slot) (hl : lv_has ls 2 [(0, .ref (a 0)), (1, .int x1)]) : W p l e rm_X8_refuse s m args below meth c H locs 0 0 (MQ below (va_Qi (fun (r : Int32) (u : St) => (r, u) = Z) (mWB dC dI cI cZ a A) A) args s 0 0 A) (F0 m 0 ls []) := by
  obtain ⟨hx, hb, hr, hml, hown, hts, hlocks⟩ := id C0
  rw [ok_X8_refuse] at hok
  rw [rs_X8_refuse] at hZ
  refine lv_aload_n hx hb dX8_refuse_0 rfl (lv_at hl 0 rfl) ?_
  refine lv_iload_n hx hb dX8_refuse_1 rfl (lv_at hl 1 rfl) ?_
  refine va_put (D := (dC, dI)) (ci := 7) (v := .int x1) (ty := .int) (C := RX8) (T := TX8) (N := 35) hx hb hts iX8_refuse_X8 tyX8 tyX8_ok nmX8 hown hK hP hD hS 0 rfl rfl 0 (by decide) (hts (.fieldLink RX8 88 "RiskHouseModel" "thrown" "I") (by decide +kernel)) (fun _ h9 => h9) rfl (by decide +kernel) rfl rfl (Nat.le_of_ble_eq_true rfl) dX8_refuse_2 (fun H locs hP hD hS => ?_)
  have hP : va_P (dC, dI) vwCl (mW cI cZ a (sI S 2000 x1)) H := hP
  have hD : va_D A (mW cI cZ a (sI S 2000 x1)) := hD
  refine lv_iconst (v := 0) hx hb dX8_refuse_5 (by decide) ?_
  exact W.iret (v := 0) hx hb hr (fun t ht hW => ⟨⟨0, (sI S 2000 x1), rfl, hZ, by rw [ht]; exact hP, va_K.moved hW.alike hK, hD⟩, hS.F ht⟩) hS.2.2 dX8_refuse_6 hlocks
set_option maxHeartbeats 4000000 in
set_option maxRecDepth 100000 in
theorem c_X8_refuse (l : Launch) (dC : Nat → ClassId) (dI : Nat → Nat → Nat) (cI cZ : ClassId) (a : Nat → Nat) (sz : Nat) (S : St) (x1 : Int32) (hok : ok_X8_refuse S x1) : Met l yX8_refuse wsX8_refuse rm_X8_refuse (va_Pc [.ref (a 0), .int x1] (mWP dC dI cI cZ a sz S)) (va_Qi (fun (r : Int32) (u : St) => (r, u) = rs_X8_refuse S x1) (mWB dC dI cI cZ a (va_A (mW cI cZ a S) sz)) (va_A (mW cI cZ a S) sz)) 0 0 (va_A (mW cI cZ a S) sz) := by
  refine Met.ofW (cc := cX8_refuse) (maxL := 2) (ret := (some .int)) (by decide) rfl ?_
  intro p e s m args below meth c s₁ B hml hv
  obtain ⟨rfl, hsz, hP, hK, hD0⟩ := hv
  subst hsz
  have hD := hD0.self (sz := s.heap.size)
  have hl := lv_entry ([.ref (a 0), .int x1]) (n := 2) (Nat.le_of_ble_eq_true rfl)
  rw [lg_entry_eq]
  generalize (lg_sl ([.ref (a 0), .int x1]) ++ List.replicate (2 - (lg_sl ([.ref (a 0), .int x1])).length) Slot.unset).toArray = ls at hl ⊢
  have hl : lv_has ls 2 [(0, .ref (a 0)), (1, .int x1)] := hl
  exact w_X8_refuse ⟨B.exec, B.bytes, B.returns, hml, findClass_of_methodNamed B.named, atoms_spec (ws := wsX8_refuse) B.pre, B.notSynchronized⟩ hK (fun q h => Or.inr h) _ S x1 hok rfl _ _ hP hD va_S.rf ls hl
abbrev rm_X8_in : Room := { frames := 0, cells := 0, slots := 0, locals := 0 }
def rs_X8_in_14  : Int32 := 0
def ok_X8_in_14  : Prop := True
set_option maxHeartbeats 4000000 in
set_option maxRecDepth 100000 in
theorem w_X8_in_14 {p : Program} {l : Launch} {e : Env} {s : State} {m : MethodId} {args : Array Value} {below : List Frame} {meth : Method} {c : Code} {A : Nat → Prop} (C0 : Cx p s m args meth c RX8 cX8_in (some .boolean) 3 wsX8_in) (hA : ∀ q, s.heap.size ≤ q → A q) (Z : Int32)  (hok : ok_X8_in_14) (hZ : rs_X8_in_14 = Z) (H : Heap) (locs : List Loc) (hS : va_S A s.heap H locs) (ls : Array Slot) (hl : lv_has ls 3 []) : W p l e rm_X8_in s m args below meth c H locs 0 0 (MQ below (va_Qi (fun (r : Int32) (_ : Unit) => r = Z) (fun _ _ => True) A) args s 0 0 A) (F0 m 14 ls []) := by
  obtain ⟨hx, hb, hr, hml, hown, hts, hlocks⟩ := id C0
  rw [ok_X8_in_14] at hok
  rw [rs_X8_in_14] at hZ
  refine lv_iconst (v := 0) hx hb dX8_in_14 (by decide) ?_
  exact W.zret (v := 0) hx hb hr rfl (fun t ht hW => ⟨⟨0, (), rfl, hZ, trivial⟩, hS.F ht⟩) hS.2.2 dX8_in_15 hlocks
def rs_X8_in (x0 : Int32) (x1 : Int32) (x2 : Int32) : Int32 := (if x0 < x1 then (rs_X8_in_14 ) else (if x2 < x0 then (rs_X8_in_14 ) else 1))
def ok_X8_in (x0 : Int32) (x1 : Int32) (x2 : Int32) : Prop := (if x0 < x1 then ok_X8_in_14  else (if x2 < x0 then ok_X8_in_14  else True))
set_option maxHeartbeats 4000000 in
set_option maxRecDepth 100000 in
theorem w_X8_in {p : Program} {l : Launch} {e : Env} {s : State} {m : MethodId} {args : Array Value} {below : List Frame} {meth : Method} {c : Code} {A : Nat → Prop} (C0 : Cx p s m args meth c RX8 cX8_in (some .boolean) 3 wsX8_in) (hA : ∀ q, s.heap.size ≤ q → A q) (Z : Int32) (x0 : Int32) (x1 : Int32) (x2 : Int32) (hok : ok_X8_in x0 x1 x2) (hZ : rs_X8_in x0 x1 x2 = Z) (H : Heap) (locs : List Loc) (hS : va_S A s.heap H locs) (ls : Array Slot) (hl : lv_has ls 3 [(0, .int x0), (1, .int x1), (2, .int x2)]) : W p l e rm_X8_in s m args below meth c H locs 0 0 (MQ below (va_Qi (fun (r : Int32) (_ : Unit) => r = Z) (fun _ _ => True) A) args s 0 0 A) (F0 m 0 ls []) := by
  obtain ⟨hx, hb, hr, hml, hown, hts, hlocks⟩ := id C0
  rw [ok_X8_in] at hok
  rw [rs_X8_in] at hZ
  refine lv_iload_n hx hb dX8_in_0 rfl (lv_at hl 0 rfl) ?_
  refine lv_iload_n hx hb dX8_in_1 rfl (lv_at hl 1 rfl) ?_
  refine lv_icmp_lt (tgt := 14) hx hb dX8_in_2 (by decide) (fun c_1 => ?_) (fun c_1 => ?_)
  · have hok := okT hok c_1
    have hZ := rsT hZ c_1
    exact w_X8_in_14 C0  hA Z  hok hZ _ _ hS _ (lv_sub hl [] rfl)
  · have hok := okF hok c_1
    have hZ := rsF hZ c_1
    refine lv_iload_n hx hb dX8_in_5 rfl (lv_at hl 0 rfl) ?_
    refine lv_iload_n hx hb dX8_in_6 rfl (lv_at hl 2 rfl) ?_
    refine lv_icmp_gt (tgt := 14) hx hb dX8_in_7 (by decide) (fun c_2 => ?_) (fun c_2 => ?_)
    · have hok := okT hok c_2
      have hZ := rsT hZ c_2
      exact w_X8_in_14 C0  hA Z  hok hZ _ _ hS _ (lv_sub hl [] rfl)
    · have hok := okF hok c_2
      have hZ := rsF hZ c_2
      refine lv_iconst (v := 1) hx hb dX8_in_10 (by decide) ?_
      refine lv_goto (tgt := 15) hx hb dX8_in_11 (by decide) ?_
      exact W.zret (v := 1) hx hb hr rfl (fun t ht hW => ⟨⟨1, (), rfl, hZ, trivial⟩, hS.F ht⟩) hS.2.2 dX8_in_15 hlocks
set_option maxHeartbeats 4000000 in
set_option maxRecDepth 100000 in
theorem c_X8_in (l : Launch) (sz : Nat) (x0 : Int32) (x1 : Int32) (x2 : Int32) (hok : ok_X8_in x0 x1 x2) : Met l yX8_in wsX8_in rm_X8_in (va_Pc [.int x0, .int x1, .int x2] (fun U => U.heap.size = sz)) (va_Qi (fun (r : Int32) (_ : Unit) => r = rs_X8_in x0 x1 x2) (fun _ _ => True) (va_A [] sz)) 0 0 (va_A [] sz) := by
  refine Met.ofW (cc := cX8_in) (maxL := 3) (ret := (some .boolean)) (by decide) rfl ?_
  intro p e s m args below meth c s₁ B hml hv
  obtain ⟨rfl, hsz⟩ := hv
  subst hsz
  have hl := lv_entry ([.int x0, .int x1, .int x2]) (n := 3) (Nat.le_of_ble_eq_true rfl)
  rw [lg_entry_eq]
  generalize (lg_sl ([.int x0, .int x1, .int x2]) ++ List.replicate (3 - (lg_sl ([.int x0, .int x1, .int x2])).length) Slot.unset).toArray = ls at hl ⊢
  have hl : lv_has ls 3 [(0, .int x0), (1, .int x1), (2, .int x2)] := hl
  exact w_X8_in ⟨B.exec, B.bytes, B.returns, hml, findClass_of_methodNamed B.named, atoms_spec (ws := wsX8_in) B.pre, B.notSynchronized⟩ (fun q h => Or.inr h) _ x0 x1 x2 hok rfl _ _ va_S.rf ls hl
abbrev rm_X8_isRule : Room := { frames := 0, cells := 0, slots := 0, locals := 0 }
theorem iX8_isRule_X8 : ∀ w ∈ wsX80, w ∈ wsX8_isRule := by decide +kernel
def rs_X8_isRule_16 (S : St)  : Int32 × St := (0, S)
def ok_X8_isRule_16 (S : St)  : Prop := True
set_option maxHeartbeats 4000000 in
set_option maxRecDepth 100000 in
theorem w_X8_isRule_16 {p : Program} {l : Launch} {e : Env} {s : State} {m : MethodId} {args : Array Value} {below : List Frame} {meth : Method} {c : Code} {dC : Nat → ClassId} {dI : Nat → Nat → Nat} {cI cZ : ClassId} {a : Nat → Nat} {A : Nat → Prop} (C0 : Cx p s m args meth c RX8 cX8_isRule (some .boolean) 2 wsX8_isRule) (hK : va_K (dC, dI) vwCl (tI cI cZ) s) (hA : ∀ q, s.heap.size ≤ q → A q) (Z : Int32 × St) (S : St)  (hok : ok_X8_isRule_16 S) (hZ : rs_X8_isRule_16 S = Z) (H : Heap) (locs : List Loc) (hP : va_P (dC, dI) vwCl (mW cI cZ a S) H) (hD : va_D A (mW cI cZ a S)) (hS : va_S A s.heap H locs) (ls : Array Slot) (hl : lv_has ls 2 []) : W p l e rm_X8_isRule s m args below meth c H locs 0 0 (MQ below (va_Qi (fun (r : Int32) (u : St) => (r, u) = Z) (mWB dC dI cI cZ a A) A) args s 0 0 A) (F0 m 16 ls []) := by
  obtain ⟨hx, hb, hr, hml, hown, hts, hlocks⟩ := id C0
  rw [ok_X8_isRule_16] at hok
  rw [rs_X8_isRule_16] at hZ
  refine lv_iconst (v := 0) hx hb dX8_isRule_16 (by decide) ?_
  exact W.zret (v := 0) hx hb hr rfl (fun t ht hW => ⟨⟨0, S, rfl, hZ, by rw [ht]; exact hP, va_K.moved hW.alike hK, hD⟩, hS.F ht⟩) hS.2.2 dX8_isRule_17 hlocks
def rs_X8_isRule (S : St) (x1 : Int32) : Int32 × St := (if x1 < 0 then (rs_X8_isRule_16 S) else (if (S.1 127) ≤ x1 then (rs_X8_isRule_16 S) else (1, S)))
def ok_X8_isRule (S : St) (x1 : Int32) : Prop := (if x1 < 0 then ok_X8_isRule_16 S else (if (S.1 127) ≤ x1 then ok_X8_isRule_16 S else True))
set_option maxHeartbeats 4000000 in
set_option maxRecDepth 100000 in
theorem w_X8_isRule {p : Program} {l : Launch} {e : Env} {s : State} {m : MethodId} {args : Array Value} {below : List Frame} {meth : Method} {c : Code} {dC : Nat → ClassId} {dI : Nat → Nat → Nat} {cI cZ : ClassId} {a : Nat → Nat} {A : Nat → Prop} (C0 : Cx p s m args meth c RX8 cX8_isRule (some .boolean) 2 wsX8_isRule) (hK : va_K (dC, dI) vwCl (tI cI cZ) s) (hA : ∀ q, s.heap.size ≤ q → A q) (Z : Int32 × St) (S : St) (x1 : Int32) (hok : ok_X8_isRule S x1) (hZ : rs_X8_isRule S x1 = Z) (H : Heap) (locs : List Loc) (hP : va_P (dC, dI) vwCl (mW cI cZ a S) H) (hD : va_D A (mW cI cZ a S)) (hS : va_S A s.heap H locs) (ls : Array Slot) (hl : lv_has ls 2 [(0, .ref (a 0)), (1, .int x1)]) : W p l e rm_X8_isRule s m args below meth c H locs 0 0 (MQ below (va_Qi (fun (r : Int32) (u : St) => (r, u) = Z) (mWB dC dI cI cZ a A) A) args s 0 0 A) (F0 m 0 ls []) := by
  obtain ⟨hx, hb, hr, hml, hown, hts, hlocks⟩ := id C0
  rw [ok_X8_isRule] at hok
  rw [rs_X8_isRule] at hZ
  refine lv_iload_n hx hb dX8_isRule_0 rfl (lv_at hl 1 rfl) ?_
  refine lv_if_lt (tgt := 16) hx hb dX8_isRule_1 (by decide) (fun c_1 => ?_) (fun c_1 => ?_)
  · have hok := okT hok c_1
    have hZ := rsT hZ c_1
    exact w_X8_isRule_16 C0 hK hA Z S hok hZ _ _ hP hD hS _ (lv_sub hl [] rfl)
  · have hok := okF hok c_1
    have hZ := rsF hZ c_1
    refine lv_iload_n hx hb dX8_isRule_4 rfl (lv_at hl 1 rfl) ?_
    refine lv_aload_n hx hb dX8_isRule_5 rfl (lv_at hl 0 rfl) ?_
    refine va_get (D := (dC, dI)) (ci := 7) (v := .int (S.1 127)) (C := RX8) (T := TX8) (N := 35) hx hb hts iX8_isRule_X8 hown hK hP 0 rfl rfl 5 (by decide) (hts (.fieldLink RX8 91 "RiskHouseModel" "rules" "I") (by decide +kernel)) (fun _ h9 => h9) rfl dX8_isRule_6 ?_
    refine lv_icmp_ge (tgt := 16) hx hb dX8_isRule_9 (by decide) (fun c_2 => ?_) (fun c_2 => ?_)
    · have hok := okT hok c_2
      have hZ := rsT hZ c_2
      exact w_X8_isRule_16 C0 hK hA Z S hok hZ _ _ hP hD hS _ (lv_sub hl [] rfl)
    · have hok := okF hok c_2
      have hZ := rsF hZ c_2
      refine lv_iconst (v := 1) hx hb dX8_isRule_12 (by decide) ?_
      refine lv_goto (tgt := 17) hx hb dX8_isRule_13 (by decide) ?_
      exact W.zret (v := 1) hx hb hr rfl (fun t ht hW => ⟨⟨1, S, rfl, hZ, by rw [ht]; exact hP, va_K.moved hW.alike hK, hD⟩, hS.F ht⟩) hS.2.2 dX8_isRule_17 hlocks
set_option maxHeartbeats 4000000 in
set_option maxRecDepth 100000 in
theorem c_X8_isRule (l : Launch) (dC : Nat → ClassId) (dI : Nat → Nat → Nat) (cI cZ : ClassId) (a : Nat → Nat) (sz : Nat) (S : St) (x1 : Int32) (hok : ok_X8_isRule S x1) : Met l yX8_isRule wsX8_isRule rm_X8_isRule (va_Pc [.ref (a 0), .int x1] (mWP dC dI cI cZ a sz S)) (va_Qi (fun (r : Int32) (u : St) => (r, u) = rs_X8_isRule S x1) (mWB dC dI cI cZ a (va_A (mW cI cZ a S) sz)) (va_A (mW cI cZ a S) sz)) 0 0 (va_A (mW cI cZ a S) sz) := by
  refine Met.ofW (cc := cX8_isRule) (maxL := 2) (ret := (some .boolean)) (by decide) rfl ?_
  intro p e s m args below meth c s₁ B hml hv
  obtain ⟨rfl, hsz, hP, hK, hD0⟩ := hv
  subst hsz
  have hD := hD0.self (sz := s.heap.size)
  have hl := lv_entry ([.ref (a 0), .int x1]) (n := 2) (Nat.le_of_ble_eq_true rfl)
  rw [lg_entry_eq]
  generalize (lg_sl ([.ref (a 0), .int x1]) ++ List.replicate (2 - (lg_sl ([.ref (a 0), .int x1])).length) Slot.unset).toArray = ls at hl ⊢
  have hl : lv_has ls 2 [(0, .ref (a 0)), (1, .int x1)] := hl
  exact w_X8_isRule ⟨B.exec, B.bytes, B.returns, hml, findClass_of_methodNamed B.named, atoms_spec (ws := wsX8_isRule) B.pre, B.notSynchronized⟩ hK (fun q h => Or.inr h) _ S x1 hok rfl _ _ hP hD va_S.rf ls hl
abbrev rm_X8_isFour : Room := { frames := 0, cells := 0, slots := 0, locals := 0 }
def rs_X8_isFour_13  : Int32 := 0
def ok_X8_isFour_13  : Prop := True
set_option maxHeartbeats 4000000 in
set_option maxRecDepth 100000 in
theorem w_X8_isFour_13 {p : Program} {l : Launch} {e : Env} {s : State} {m : MethodId} {args : Array Value} {below : List Frame} {meth : Method} {c : Code} {A : Nat → Prop} (C0 : Cx p s m args meth c RX8 cX8_isFour (some .boolean) 1 wsX8_isFour) (hA : ∀ q, s.heap.size ≤ q → A q) (Z : Int32)  (hok : ok_X8_isFour_13) (hZ : rs_X8_isFour_13 = Z) (H : Heap) (locs : List Loc) (hS : va_S A s.heap H locs) (ls : Array Slot) (hl : lv_has ls 1 []) : W p l e rm_X8_isFour s m args below meth c H locs 0 0 (MQ below (va_Qi (fun (r : Int32) (_ : Unit) => r = Z) (fun _ _ => True) A) args s 0 0 A) (F0 m 13 ls []) := by
  obtain ⟨hx, hb, hr, hml, hown, hts, hlocks⟩ := id C0
  rw [ok_X8_isFour_13] at hok
  rw [rs_X8_isFour_13] at hZ
  refine lv_iconst (v := 0) hx hb dX8_isFour_13 (by decide) ?_
  exact W.zret (v := 0) hx hb hr rfl (fun t ht hW => ⟨⟨0, (), rfl, hZ, trivial⟩, hS.F ht⟩) hS.2.2 dX8_isFour_14 hlocks
def rs_X8_isFour (x0 : Int32) : Int32 := (if x0 < 0 then (rs_X8_isFour_13 ) else (if 4 ≤ x0 then (rs_X8_isFour_13 ) else 1))
def ok_X8_isFour (x0 : Int32) : Prop := (if x0 < 0 then ok_X8_isFour_13  else (if 4 ≤ x0 then ok_X8_isFour_13  else True))
set_option maxHeartbeats 4000000 in
set_option maxRecDepth 100000 in
theorem w_X8_isFour {p : Program} {l : Launch} {e : Env} {s : State} {m : MethodId} {args : Array Value} {below : List Frame} {meth : Method} {c : Code} {A : Nat → Prop} (C0 : Cx p s m args meth c RX8 cX8_isFour (some .boolean) 1 wsX8_isFour) (hA : ∀ q, s.heap.size ≤ q → A q) (Z : Int32) (x0 : Int32) (hok : ok_X8_isFour x0) (hZ : rs_X8_isFour x0 = Z) (H : Heap) (locs : List Loc) (hS : va_S A s.heap H locs) (ls : Array Slot) (hl : lv_has ls 1 [(0, .int x0)]) : W p l e rm_X8_isFour s m args below meth c H locs 0 0 (MQ below (va_Qi (fun (r : Int32) (_ : Unit) => r = Z) (fun _ _ => True) A) args s 0 0 A) (F0 m 0 ls []) := by
  obtain ⟨hx, hb, hr, hml, hown, hts, hlocks⟩ := id C0
  rw [ok_X8_isFour] at hok
  rw [rs_X8_isFour] at hZ
  refine lv_iload_n hx hb dX8_isFour_0 rfl (lv_at hl 0 rfl) ?_
  refine lv_if_lt (tgt := 13) hx hb dX8_isFour_1 (by decide) (fun c_1 => ?_) (fun c_1 => ?_)
  · have hok := okT hok c_1
    have hZ := rsT hZ c_1
    exact w_X8_isFour_13 C0  hA Z  hok hZ _ _ hS _ (lv_sub hl [] rfl)
  · have hok := okF hok c_1
    have hZ := rsF hZ c_1
    refine lv_iload_n hx hb dX8_isFour_4 rfl (lv_at hl 0 rfl) ?_
    refine lv_iconst (v := 4) hx hb dX8_isFour_5 (by decide) ?_
    refine lv_icmp_ge (tgt := 13) hx hb dX8_isFour_6 (by decide) (fun c_2 => ?_) (fun c_2 => ?_)
    · have hok := okT hok c_2
      have hZ := rsT hZ c_2
      exact w_X8_isFour_13 C0  hA Z  hok hZ _ _ hS _ (lv_sub hl [] rfl)
    · have hok := okF hok c_2
      have hZ := rsF hZ c_2
      refine lv_iconst (v := 1) hx hb dX8_isFour_9 (by decide) ?_
      refine lv_goto (tgt := 14) hx hb dX8_isFour_10 (by decide) ?_
      exact W.zret (v := 1) hx hb hr rfl (fun t ht hW => ⟨⟨1, (), rfl, hZ, trivial⟩, hS.F ht⟩) hS.2.2 dX8_isFour_14 hlocks
set_option maxHeartbeats 4000000 in
set_option maxRecDepth 100000 in
theorem c_X8_isFour (l : Launch) (sz : Nat) (x0 : Int32) (hok : ok_X8_isFour x0) : Met l yX8_isFour wsX8_isFour rm_X8_isFour (va_Pc [.int x0] (fun U => U.heap.size = sz)) (va_Qi (fun (r : Int32) (_ : Unit) => r = rs_X8_isFour x0) (fun _ _ => True) (va_A [] sz)) 0 0 (va_A [] sz) := by
  refine Met.ofW (cc := cX8_isFour) (maxL := 1) (ret := (some .boolean)) (by decide) rfl ?_
  intro p e s m args below meth c s₁ B hml hv
  obtain ⟨rfl, hsz⟩ := hv
  subst hsz
  have hl := lv_entry ([.int x0]) (n := 1) (Nat.le_of_ble_eq_true rfl)
  rw [lg_entry_eq]
  generalize (lg_sl ([.int x0]) ++ List.replicate (1 - (lg_sl ([.int x0])).length) Slot.unset).toArray = ls at hl ⊢
  have hl : lv_has ls 1 [(0, .int x0)] := hl
  exact w_X8_isFour ⟨B.exec, B.bytes, B.returns, hml, findClass_of_methodNamed B.named, atoms_spec (ws := wsX8_isFour) B.pre, B.notSynchronized⟩ (fun q h => Or.inr h) _ x0 hok rfl _ _ va_S.rf ls hl
abbrev rm_X8_rule : Room := { frames := 1, cells := 0, slots := 0, locals := 21 }
theorem iX8_rule_X8 : ∀ w ∈ wsX80, w ∈ wsX8_rule := by decide +kernel
def rs_X8_rule_12 (S : St) (z0 : Int32) : Int32 × St := (z0, S)
def ok_X8_rule_12 (S : St) (z0 : Int32) : Prop := True
set_option maxHeartbeats 4000000 in
set_option maxRecDepth 100000 in
theorem w_X8_rule_12 {p : Program} {l : Launch} {e : Env} {s : State} {m : MethodId} {args : Array Value} {below : List Frame} {meth : Method} {c : Code} {dC : Nat → ClassId} {dI : Nat → Nat → Nat} {cI cZ : ClassId} {a : Nat → Nat} {A : Nat → Prop} (C0 : Cx p s m args meth c RX8 cX8_rule (some .int) 3 wsX8_rule) (hK : va_K (dC, dI) vwCl (tI cI cZ) s) (hA : ∀ q, s.heap.size ≤ q → A q) (Z : Int32 × St) (S : St) (z0 : Int32) (hok : ok_X8_rule_12 S z0) (hZ : rs_X8_rule_12 S z0 = Z) (H : Heap) (locs : List Loc) (hP : va_P (dC, dI) vwCl (mW cI cZ a S) H) (hD : va_D A (mW cI cZ a S)) (hS : va_S A s.heap H locs) (ls : Array Slot) (hl : lv_has ls 3 []) : W p l e rm_X8_rule s m args below meth c H locs 0 0 (MQ below (va_Qi (fun (r : Int32) (u : St) => (r, u) = Z) (mWB dC dI cI cZ a A) A) args s 0 0 A) (F0 m 12 ls [.int z0]) := by
  obtain ⟨hx, hb, hr, hml, hown, hts, hlocks⟩ := id C0
  rw [ok_X8_rule_12] at hok
  rw [rs_X8_rule_12] at hZ
  exact W.iret (v := z0) hx hb hr (fun t ht hW => ⟨⟨z0, S, rfl, hZ, by rw [ht]; exact hP, va_K.moved hW.alike hK, hD⟩, hS.F ht⟩) hS.2.2 dX8_rule_12 hlocks
def rs_X8_rule_36 (S : St) (z0 : Int32) : Int32 × St := (z0, S)
def ok_X8_rule_36 (S : St) (z0 : Int32) : Prop := True
set_option maxHeartbeats 4000000 in
set_option maxRecDepth 100000 in
theorem w_X8_rule_36 {p : Program} {l : Launch} {e : Env} {s : State} {m : MethodId} {args : Array Value} {below : List Frame} {meth : Method} {c : Code} {dC : Nat → ClassId} {dI : Nat → Nat → Nat} {cI cZ : ClassId} {a : Nat → Nat} {A : Nat → Prop} (C0 : Cx p s m args meth c RX8 cX8_rule (some .int) 3 wsX8_rule) (hK : va_K (dC, dI) vwCl (tI cI cZ) s) (hA : ∀ q, s.heap.size ≤ q → A q) (Z : Int32 × St) (S : St) (z0 : Int32) (hok : ok_X8_rule_36 S z0) (hZ : rs_X8_rule_36 S z0 = Z) (H : Heap) (locs : List Loc) (hP : va_P (dC, dI) vwCl (mW cI cZ a S) H) (hD : va_D A (mW cI cZ a S)) (hS : va_S A s.heap H locs) (ls : Array Slot) (hl : lv_has ls 3 []) : W p l e rm_X8_rule s m args below meth c H locs 0 0 (MQ below (va_Qi (fun (r : Int32) (u : St) => (r, u) = Z) (mWB dC dI cI cZ a A) A) args s 0 0 A) (F0 m 36 ls [.int z0]) := by
  obtain ⟨hx, hb, hr, hml, hown, hts, hlocks⟩ := id C0
  rw [ok_X8_rule_36] at hok
  rw [rs_X8_rule_36] at hZ
  exact W.iret (v := z0) hx hb hr (fun t ht hW => ⟨⟨z0, S, rfl, hZ, by rw [ht]; exact hP, va_K.moved hW.alike hK, hD⟩, hS.F ht⟩) hS.2.2 dX8_rule_36 hlocks
def rs_X8_rule_31 (S : St)  : Int32 × St := (rs_X8_rule_36 (rs_X8_refuse S 2).2 ((rs_X8_refuse S 2).1))
def ok_X8_rule_31 (S : St)  : Prop := ((ok_X8_refuse S 2) ∧ ok_X8_rule_36 (rs_X8_refuse S 2).2 ((rs_X8_refuse S 2).1))
set_option maxHeartbeats 4000000 in
set_option maxRecDepth 100000 in
theorem w_X8_rule_31 {p : Program} {l : Launch} {e : Env} {s : State} {m : MethodId} {args : Array Value} {below : List Frame} {meth : Method} {c : Code} {dC : Nat → ClassId} {dI : Nat → Nat → Nat} {cI cZ : ClassId} {a : Nat → Nat} {A : Nat → Prop} (C0 : Cx p s m args meth c RX8 cX8_rule (some .int) 3 wsX8_rule) (hK : va_K (dC, dI) vwCl (tI cI cZ) s) (hA : ∀ q, s.heap.size ≤ q → A q) (Z : Int32 × St) (S : St)  (hok : ok_X8_rule_31 S) (hZ : rs_X8_rule_31 S = Z) (H : Heap) (locs : List Loc) (hP : va_P (dC, dI) vwCl (mW cI cZ a S) H) (hD : va_D A (mW cI cZ a S)) (hS : va_S A s.heap H locs) (ls : Array Slot) (hl : lv_has ls 3 [(0, .ref (a 0))]) : W p l e rm_X8_rule s m args below meth c H locs 0 0 (MQ below (va_Qi (fun (r : Int32) (u : St) => (r, u) = Z) (mWB dC dI cI cZ a A) A) args s 0 0 A) (F0 m 31 ls []) := by
  obtain ⟨hx, hb, hr, hml, hown, hts, hlocks⟩ := id C0
  rw [ok_X8_rule_31] at hok
  rw [rs_X8_rule_31] at hZ
  refine lv_aload_n hx hb dX8_rule_31 rfl (lv_at hl 0 rfl) ?_
  refine lv_iconst (v := 2) hx hb dX8_rule_32 (by decide) ?_
  obtain ⟨k_1, hok⟩ := hok
  have hFc := wFw (w := mW cI cZ a S) hD hS hA
  refine va_calli (va_runV (As := [.int 2]) (rest := []) ⟨hx, hb, hml, hown, hts⟩ (c_X8_refuse l dC dI cI cZ a H.size S 2 k_1) (cwV 1 hts gX8_rule_X8_refuse rfl rfl rfl (by decide +kernel) ⟨Nat.le_of_ble_eq_true rfl, Nat.le_of_ble_eq_true rfl⟩) ⟨wBl, va_recv hK hP (ci := 7) (q0 := 0) rfl rfl, fun U hU hW => ⟨rfl, by rw [hU], by rw [hU]; exact hP, va_K.moved hW.alike hK, hD.weaken (fun _ _ _ _ => trivial)⟩⟩ rfl rfl hl.1 rfl (lv_room (Nat.le_of_ble_eq_true rfl)) dX8_rule_33 ⟨Nat.zero_le _, Nat.zero_le _⟩) hS (fun q _ h => hFc q h) hFc (fun r u t H1 locs ht hvm hw hB hz1 hk1 hS => ?_)
  obtain ⟨hP, hD⟩ := wJn ht hFc hB.1 hB.2.2
  have e1 : r = (rs_X8_refuse S 2).1 := congrArg Prod.fst hw
  have e2 : u = (rs_X8_refuse S 2).2 := congrArg Prod.snd hw
  rw [e1]
  rw [e2] at hP hD
  generalize H1 = H at hP hS ⊢
  exact w_X8_rule_36 C0 hK hA Z (rs_X8_refuse S 2).2 ((rs_X8_refuse S 2).1) hok hZ _ _ hP hD hS _ (lv_sub hl [] rfl)
def rs_X8_rule_62 (S : St)  : Int32 × St := ((((S.1 127) + 1) - 1), (sI S 127 ((S.1 127) + 1)))
def ok_X8_rule_62 (S : St)  : Prop := True
set_option maxHeartbeats 4000000 in
set_option maxRecDepth 100000 in
theorem w_X8_rule_62 {p : Program} {l : Launch} {e : Env} {s : State} {m : MethodId} {args : Array Value} {below : List Frame} {meth : Method} {c : Code} {dC : Nat → ClassId} {dI : Nat → Nat → Nat} {cI cZ : ClassId} {a : Nat → Nat} {A : Nat → Prop} (C0 : Cx p s m args meth c RX8 cX8_rule (some .int) 3 wsX8_rule) (hK : va_K (dC, dI) vwCl (tI cI cZ) s) (hA : ∀ q, s.heap.size ≤ q → A q) (Z : Int32 × St) (S : St)  (hok : ok_X8_rule_62 S) (hZ : rs_X8_rule_62 S = Z) (H : Heap) (locs : List Loc) (hP : va_P (dC, dI) vwCl (mW cI cZ a S) H) (hD : va_D A (mW cI cZ a S)) (hS : va_S A s.heap H locs) (ls : Array Slot) (hl : lv_has ls 3 [(0, .ref (a 0))]) : W p l e rm_X8_rule s m args below meth c H locs 0 0 (MQ below (va_Qi (fun (r : Int32) (u : St) => (r, u) = Z) (mWB dC dI cI cZ a A) A) args s 0 0 A) (F0 m 62 ls []) := by
  obtain ⟨hx, hb, hr, hml, hown, hts, hlocks⟩ := id C0
  rw [ok_X8_rule_62] at hok
  rw [rs_X8_rule_62] at hZ
  refine lv_aload_n hx hb dX8_rule_62 rfl (lv_at hl 0 rfl) ?_
  refine lv_dup hx hb dX8_rule_63 rfl ?_
  refine va_get (D := (dC, dI)) (ci := 7) (v := .int (S.1 127)) (C := RX8) (T := TX8) (N := 35) hx hb hts iX8_rule_X8 hown hK hP 0 rfl rfl 5 (by decide) (hts (.fieldLink RX8 91 "RiskHouseModel" "rules" "I") (by decide +kernel)) (fun _ h9 => h9) rfl dX8_rule_64 ?_
  refine lv_iconst (v := 1) hx hb dX8_rule_67 (by decide) ?_
  refine lv_iadd hx hb dX8_rule_68 ?_
  refine va_put (D := (dC, dI)) (ci := 7) (v := .int ((S.1 127) + 1)) (ty := .int) (C := RX8) (T := TX8) (N := 35) hx hb hts iX8_rule_X8 tyX8 tyX8_ok nmX8 hown hK hP hD hS 0 rfl rfl 5 (by decide) (hts (.fieldLink RX8 91 "RiskHouseModel" "rules" "I") (by decide +kernel)) (fun _ h9 => h9) rfl (by decide +kernel) rfl rfl (Nat.le_of_ble_eq_true rfl) dX8_rule_69 (fun H locs hP hD hS => ?_)
  have hP : va_P (dC, dI) vwCl (mW cI cZ a (sI S 127 ((S.1 127) + 1))) H := hP
  have hD : va_D A (mW cI cZ a (sI S 127 ((S.1 127) + 1))) := hD
  refine lv_aload_n hx hb dX8_rule_72 rfl (lv_at hl 0 rfl) ?_
  refine va_get (D := (dC, dI)) (ci := 7) (v := .int ((S.1 127) + 1)) (C := RX8) (T := TX8) (N := 35) hx hb hts iX8_rule_X8 hown hK hP 0 rfl rfl 5 (by decide) (hts (.fieldLink RX8 91 "RiskHouseModel" "rules" "I") (by decide +kernel)) (fun _ h9 => h9) rfl dX8_rule_73 ?_
  refine lv_iconst (v := 1) hx hb dX8_rule_76 (by decide) ?_
  refine lv_isub hx hb dX8_rule_77 ?_
  exact W.iret (v := (((S.1 127) + 1) - 1)) hx hb hr (fun t ht hW => ⟨⟨(((S.1 127) + 1) - 1), (sI S 127 ((S.1 127) + 1)), rfl, hZ, by rw [ht]; exact hP, va_K.moved hW.alike hK, hD⟩, hS.F ht⟩) hS.2.2 dX8_rule_78 hlocks
def rs_X8_rule_52 (S : St) (x2 : Int32) : Int32 × St := (rs_X8_rule_62 (sA S 5 (S.1 127).toNatClampNeg (vp_nar .boolean x2)))
def ok_X8_rule_52 (S : St) (x2 : Int32) : Prop := ((vp_in (S.1 127) 12) ∧ ok_X8_rule_62 (sA S 5 (S.1 127).toNatClampNeg (vp_nar .boolean x2)))
set_option maxHeartbeats 4000000 in
set_option maxRecDepth 100000 in
theorem w_X8_rule_52 {p : Program} {l : Launch} {e : Env} {s : State} {m : MethodId} {args : Array Value} {below : List Frame} {meth : Method} {c : Code} {dC : Nat → ClassId} {dI : Nat → Nat → Nat} {cI cZ : ClassId} {a : Nat → Nat} {A : Nat → Prop} (C0 : Cx p s m args meth c RX8 cX8_rule (some .int) 3 wsX8_rule) (hK : va_K (dC, dI) vwCl (tI cI cZ) s) (hA : ∀ q, s.heap.size ≤ q → A q) (Z : Int32 × St) (S : St) (x2 : Int32) (hok : ok_X8_rule_52 S x2) (hZ : rs_X8_rule_52 S x2 = Z) (H : Heap) (locs : List Loc) (hP : va_P (dC, dI) vwCl (mW cI cZ a S) H) (hD : va_D A (mW cI cZ a S)) (hS : va_S A s.heap H locs) (ls : Array Slot) (hl : lv_has ls 3 [(0, .ref (a 0)), (2, .int x2)]) : W p l e rm_X8_rule s m args below meth c H locs 0 0 (MQ below (va_Qi (fun (r : Int32) (u : St) => (r, u) = Z) (mWB dC dI cI cZ a A) A) args s 0 0 A) (F0 m 52 ls []) := by
  obtain ⟨hx, hb, hr, hml, hown, hts, hlocks⟩ := id C0
  rw [ok_X8_rule_52] at hok
  rw [rs_X8_rule_52] at hZ
  refine lv_aload_n hx hb dX8_rule_52 rfl (lv_at hl 0 rfl) ?_
  refine va_get (D := (dC, dI)) (ci := 7) (v := .ref (a 5)) (C := RX8) (T := TX8) (N := 35) hx hb hts iX8_rule_X8 hown hK hP 0 rfl rfl 7 (by decide) (hts (.fieldLink RX8 22 "RiskHouseModel" "isStart" "[Z") (by decide +kernel)) (fun _ h9 => h9) rfl dX8_rule_53 ?_
  refine lv_aload_n hx hb dX8_rule_56 rfl (lv_at hl 0 rfl) ?_
  refine va_get (D := (dC, dI)) (ci := 7) (v := .int (S.1 127)) (C := RX8) (T := TX8) (N := 35) hx hb hts iX8_rule_X8 hown hK hP 0 rfl rfl 5 (by decide) (hts (.fieldLink RX8 91 "RiskHouseModel" "rules" "I") (by decide +kernel)) (fun _ h9 => h9) rfl dX8_rule_57 ?_
  refine lv_iload_n hx hb dX8_rule_60 rfl (lv_at hl 1 rfl) ?_
  obtain ⟨h_1, hok⟩ := hok
  refine va_zast hx hb hK hP hD hS 5 1 rfl rfl h_1 dX8_rule_61 (fun H locs hP hD hS => ?_)
  have hP : va_P (dC, dI) vwCl (mW cI cZ a (sA S 5 (S.1 127).toNatClampNeg (vp_nar .boolean x2))) H := hP
  have hD : va_D A (mW cI cZ a (sA S 5 (S.1 127).toNatClampNeg (vp_nar .boolean x2))) := hD
  exact w_X8_rule_62 C0 hK hA Z (sA S 5 (S.1 127).toNatClampNeg (vp_nar .boolean x2)) hok hZ _ _ hP hD hS _ (lv_sub hl [0] rfl)
def rs_X8_rule_42 (S : St) (x1 : Int32) (x2 : Int32) : Int32 × St := (rs_X8_rule_52 (sA S 4 (S.1 127).toNatClampNeg x1) x2)
def ok_X8_rule_42 (S : St) (x1 : Int32) (x2 : Int32) : Prop := ((vp_in (S.1 127) 12) ∧ ok_X8_rule_52 (sA S 4 (S.1 127).toNatClampNeg x1) x2)
set_option maxHeartbeats 4000000 in
set_option maxRecDepth 100000 in
theorem w_X8_rule_42 {p : Program} {l : Launch} {e : Env} {s : State} {m : MethodId} {args : Array Value} {below : List Frame} {meth : Method} {c : Code} {dC : Nat → ClassId} {dI : Nat → Nat → Nat} {cI cZ : ClassId} {a : Nat → Nat} {A : Nat → Prop} (C0 : Cx p s m args meth c RX8 cX8_rule (some .int) 3 wsX8_rule) (hK : va_K (dC, dI) vwCl (tI cI cZ) s) (hA : ∀ q, s.heap.size ≤ q → A q) (Z : Int32 × St) (S : St) (x1 : Int32) (x2 : Int32) (hok : ok_X8_rule_42 S x1 x2) (hZ : rs_X8_rule_42 S x1 x2 = Z) (H : Heap) (locs : List Loc) (hP : va_P (dC, dI) vwCl (mW cI cZ a S) H) (hD : va_D A (mW cI cZ a S)) (hS : va_S A s.heap H locs) (ls : Array Slot) (hl : lv_has ls 3 [(0, .ref (a 0)), (1, .int x1), (2, .int x2)]) : W p l e rm_X8_rule s m args below meth c H locs 0 0 (MQ below (va_Qi (fun (r : Int32) (u : St) => (r, u) = Z) (mWB dC dI cI cZ a A) A) args s 0 0 A) (F0 m 42 ls []) := by
  obtain ⟨hx, hb, hr, hml, hown, hts, hlocks⟩ := id C0
  rw [ok_X8_rule_42] at hok
  rw [rs_X8_rule_42] at hZ
  refine lv_aload_n hx hb dX8_rule_42 rfl (lv_at hl 0 rfl) ?_
  refine va_get (D := (dC, dI)) (ci := 7) (v := .ref (a 4)) (C := RX8) (T := TX8) (N := 35) hx hb hts iX8_rule_X8 hown hK hP 0 rfl rfl 6 (by decide) (hts (.fieldLink RX8 19 "RiskHouseModel" "editionOf" "[I") (by decide +kernel)) (fun _ h9 => h9) rfl dX8_rule_43 ?_
  refine lv_aload_n hx hb dX8_rule_46 rfl (lv_at hl 0 rfl) ?_
  refine va_get (D := (dC, dI)) (ci := 7) (v := .int (S.1 127)) (C := RX8) (T := TX8) (N := 35) hx hb hts iX8_rule_X8 hown hK hP 0 rfl rfl 5 (by decide) (hts (.fieldLink RX8 91 "RiskHouseModel" "rules" "I") (by decide +kernel)) (fun _ h9 => h9) rfl dX8_rule_47 ?_
  refine lv_iload_n hx hb dX8_rule_50 rfl (lv_at hl 1 rfl) ?_
  obtain ⟨h_1, hok⟩ := hok
  refine va_iast hx hb hK hP hD hS 4 0 rfl rfl h_1 dX8_rule_51 (fun H locs hP hD hS => ?_)
  have hP : va_P (dC, dI) vwCl (mW cI cZ a (sA S 4 (S.1 127).toNatClampNeg x1)) H := hP
  have hD : va_D A (mW cI cZ a (sA S 4 (S.1 127).toNatClampNeg x1)) := hD
  exact w_X8_rule_52 C0 hK hA Z (sA S 4 (S.1 127).toNatClampNeg x1) x2 hok hZ _ _ hP hD hS _ (lv_sub hl [0, 2] rfl)
def rs_X8_rule (S : St) (x1 : Int32) (x2 : Int32) : Int32 × St := (if (rs_X8_isFour x1) = 0 then (rs_X8_rule_12 (rs_X8_refuse S 1).2 ((rs_X8_refuse S 1).1)) else (if (S.1 127) = 12 then (rs_X8_rule_31 S) else (if ((S.2 13) x1.toNatClampNeg) ≤ 0 then (rs_X8_rule_42 (sI S 2000 0) x1 x2) else (rs_X8_rule_31 S))))
def ok_X8_rule (S : St) (x1 : Int32) (x2 : Int32) : Prop := ((ok_X8_isFour x1) ∧ (if (rs_X8_isFour x1) = 0 then ((ok_X8_refuse S 1) ∧ ok_X8_rule_12 (rs_X8_refuse S 1).2 ((rs_X8_refuse S 1).1)) else (if (S.1 127) = 12 then ok_X8_rule_31 S else ((vp_in x1 4) ∧ (if ((S.2 13) x1.toNatClampNeg) ≤ 0 then ok_X8_rule_42 (sI S 2000 0) x1 x2 else ok_X8_rule_31 S)))))
set_option maxHeartbeats 4000000 in
set_option maxRecDepth 100000 in
theorem w_X8_rule {p : Program} {l : Launch} {e : Env} {s : State} {m : MethodId} {args : Array Value} {below : List Frame} {meth : Method} {c : Code} {dC : Nat → ClassId} {dI : Nat → Nat → Nat} {cI cZ : ClassId} {a : Nat → Nat} {A : Nat → Prop} (C0 : Cx p s m args meth c RX8 cX8_rule (some .int) 3 wsX8_rule) (hK : va_K (dC, dI) vwCl (tI cI cZ) s) (hA : ∀ q, s.heap.size ≤ q → A q) (Z : Int32 × St) (S : St) (x1 : Int32) (x2 : Int32) (hok : ok_X8_rule S x1 x2) (hZ : rs_X8_rule S x1 x2 = Z) (H : Heap) (locs : List Loc) (hP : va_P (dC, dI) vwCl (mW cI cZ a S) H) (hD : va_D A (mW cI cZ a S)) (hS : va_S A s.heap H locs) (ls : Array Slot) (hl : lv_has ls 3 [(0, .ref (a 0)), (1, .int x1), (2, .int x2)]) : W p l e rm_X8_rule s m args below meth c H locs 0 0 (MQ below (va_Qi (fun (r : Int32) (u : St) => (r, u) = Z) (mWB dC dI cI cZ a A) A) args s 0 0 A) (F0 m 0 ls []) := by
  obtain ⟨hx, hb, hr, hml, hown, hts, hlocks⟩ := id C0
  rw [ok_X8_rule] at hok
  rw [rs_X8_rule] at hZ
  refine lv_iload_n hx hb dX8_rule_0 rfl (lv_at hl 1 rfl) ?_
  obtain ⟨k_1, hok⟩ := hok
  have hFc := wFr hS hA
  refine va_calli (va_runS (As := [.int x1]) (rest := []) ⟨hx, hb, hml, hown, hts⟩ (c_X8_isFour l H.size x1 k_1) (va_cwS 1 hts gX8_rule_X8_isFour rfl rfl rfl (by decide +kernel) ⟨Nat.le_of_ble_eq_true rfl, Nat.le_of_ble_eq_true rfl⟩) ⟨fun a9 U g9 mk9 q9 => q9, fun U hU hW => ⟨rfl, congrArg Array.size hU⟩⟩ rfl rfl hl.1 rfl (lv_room (Nat.le_of_ble_eq_true rfl)) dX8_rule_1 ⟨Nat.zero_le _, Nat.zero_le _⟩) hS (fun q _ h => hFc q h) hFc (fun r u t H1 locs ht hvm hw hB hz1 hk1 hS => ?_)
  have hP := wKp hP hk1
  subst hw
  generalize H1 = H at hP hS ⊢
  refine lv_if_ne (tgt := 13) hx hb dX8_rule_4 (by decide) (fun c_2 => ?_) (fun c_2 => ?_)
  · have hok := okF hok c_2
    have hZ := rsF hZ c_2
    refine lv_aload_n hx hb dX8_rule_13 rfl (lv_at hl 0 rfl) ?_
    refine va_get (D := (dC, dI)) (ci := 7) (v := .int (S.1 127)) (C := RX8) (T := TX8) (N := 35) hx hb hts iX8_rule_X8 hown hK hP 0 rfl rfl 5 (by decide) (hts (.fieldLink RX8 91 "RiskHouseModel" "rules" "I") (by decide +kernel)) (fun _ h9 => h9) rfl dX8_rule_14 ?_
    refine lv_bipush (v := 12) hx hb dX8_rule_17 (by decide) ?_
    refine lv_icmp_eq (tgt := 31) hx hb dX8_rule_19 (by decide) (fun c_3 => ?_) (fun c_3 => ?_)
    · have hok := okT hok c_3
      have hZ := rsT hZ c_3
      exact w_X8_rule_31 C0 hK hA Z S hok hZ _ _ hP hD hS _ (lv_sub hl [0] rfl)
    · have hok := okF hok c_3
      have hZ := rsF hZ c_3
      refine lv_aload_n hx hb dX8_rule_22 rfl (lv_at hl 0 rfl) ?_
      refine va_get (D := (dC, dI)) (ci := 7) (v := .ref (a 3)) (C := RX8) (T := TX8) (N := 35) hx hb hts iX8_rule_X8 hown hK hP 0 rfl rfl 4 (by decide) (hts (.fieldLink RX8 16 "RiskHouseModel" "started" "[I") (by decide +kernel)) (fun _ h9 => h9) rfl dX8_rule_23 ?_
      refine lv_iload_n hx hb dX8_rule_26 rfl (lv_at hl 1 rfl) ?_
      obtain ⟨h_4, hok⟩ := hok
      refine va_iald (f := (S.2 13)) hx hb hK hP 3 0 rfl rfl h_4 dX8_rule_27 ?_
      refine lv_if_le (tgt := 37) hx hb dX8_rule_28 (by decide) (fun c_5 => ?_) (fun c_5 => ?_)
      · have hok := okT hok c_5
        have hZ := rsT hZ c_5
        refine lv_aload_n hx hb dX8_rule_37 rfl (lv_at hl 0 rfl) ?_
        refine lv_iconst (v := 0) hx hb dX8_rule_38 (by decide) ?_
        refine va_put (D := (dC, dI)) (ci := 7) (v := .int 0) (ty := .int) (C := RX8) (T := TX8) (N := 35) hx hb hts iX8_rule_X8 tyX8 tyX8_ok nmX8 hown hK hP hD hS 0 rfl rfl 0 (by decide) (hts (.fieldLink RX8 88 "RiskHouseModel" "thrown" "I") (by decide +kernel)) (fun _ h9 => h9) rfl (by decide +kernel) rfl rfl (Nat.le_of_ble_eq_true rfl) dX8_rule_39 (fun H locs hP hD hS => ?_)
        have hP : va_P (dC, dI) vwCl (mW cI cZ a (sI S 2000 0)) H := hP
        have hD : va_D A (mW cI cZ a (sI S 2000 0)) := hD
        exact w_X8_rule_42 C0 hK hA Z (sI S 2000 0) x1 x2 hok hZ _ _ hP hD hS _ (lv_sub hl [0, 1, 2] rfl)
      · have hok := okF hok c_5
        have hZ := rsF hZ c_5
        exact w_X8_rule_31 C0 hK hA Z S hok hZ _ _ hP hD hS _ (lv_sub hl [0] rfl)
  · have hok := okT hok c_2
    have hZ := rsT hZ c_2
    refine lv_aload_n hx hb dX8_rule_7 rfl (lv_at hl 0 rfl) ?_
    refine lv_iconst (v := 1) hx hb dX8_rule_8 (by decide) ?_
    obtain ⟨k_6, hok⟩ := hok
    have hFc := wFw (w := mW cI cZ a S) hD hS hA
    refine va_calli (va_runV (As := [.int 1]) (rest := []) ⟨hx, hb, hml, hown, hts⟩ (c_X8_refuse l dC dI cI cZ a H.size S 1 k_6) (cwV 1 hts gX8_rule_X8_refuse rfl rfl rfl (by decide +kernel) ⟨Nat.le_of_ble_eq_true rfl, Nat.le_of_ble_eq_true rfl⟩) ⟨wBl, va_recv hK hP (ci := 7) (q0 := 0) rfl rfl, fun U hU hW => ⟨rfl, by rw [hU], by rw [hU]; exact hP, va_K.moved hW.alike hK, hD.weaken (fun _ _ _ _ => trivial)⟩⟩ rfl rfl hl.1 rfl (lv_room (Nat.le_of_ble_eq_true rfl)) dX8_rule_9 ⟨Nat.zero_le _, Nat.zero_le _⟩) hS (fun q _ h => hFc q h) hFc (fun r u t H1 locs ht hvm hw hB hz1 hk1 hS => ?_)
    obtain ⟨hP, hD⟩ := wJn ht hFc hB.1 hB.2.2
    have e1 : r = (rs_X8_refuse S 1).1 := congrArg Prod.fst hw
    have e2 : u = (rs_X8_refuse S 1).2 := congrArg Prod.snd hw
    rw [e1]
    rw [e2] at hP hD
    generalize H1 = H at hP hS ⊢
    exact w_X8_rule_12 C0 hK hA Z (rs_X8_refuse S 1).2 ((rs_X8_refuse S 1).1) hok hZ _ _ hP hD hS _ (lv_sub hl [] rfl)
set_option maxHeartbeats 4000000 in
set_option maxRecDepth 100000 in
theorem c_X8_rule (l : Launch) (dC : Nat → ClassId) (dI : Nat → Nat → Nat) (cI cZ : ClassId) (a : Nat → Nat) (sz : Nat) (S : St) (x1 : Int32) (x2 : Int32) (hok : ok_X8_rule S x1 x2) : Met l yX8_rule wsX8_rule rm_X8_rule (va_Pc [.ref (a 0), .int x1, .int x2] (mWP dC dI cI cZ a sz S)) (va_Qi (fun (r : Int32) (u : St) => (r, u) = rs_X8_rule S x1 x2) (mWB dC dI cI cZ a (va_A (mW cI cZ a S) sz)) (va_A (mW cI cZ a S) sz)) 0 0 (va_A (mW cI cZ a S) sz) := by
  refine Met.ofW (cc := cX8_rule) (maxL := 3) (ret := (some .int)) (by decide) rfl ?_
  intro p e s m args below meth c s₁ B hml hv
  obtain ⟨rfl, hsz, hP, hK, hD0⟩ := hv
  subst hsz
  have hD := hD0.self (sz := s.heap.size)
  have hl := lv_entry ([.ref (a 0), .int x1, .int x2]) (n := 3) (Nat.le_of_ble_eq_true rfl)
  rw [lg_entry_eq]
  generalize (lg_sl ([.ref (a 0), .int x1, .int x2]) ++ List.replicate (3 - (lg_sl ([.ref (a 0), .int x1, .int x2])).length) Slot.unset).toArray = ls at hl ⊢
  have hl : lv_has ls 3 [(0, .ref (a 0)), (1, .int x1), (2, .int x2)] := hl
  exact w_X8_rule ⟨B.exec, B.bytes, B.returns, hml, findClass_of_methodNamed B.named, atoms_spec (ws := wsX8_rule) B.pre, B.notSynchronized⟩ hK (fun q h => Or.inr h) _ S x1 x2 hok rfl _ _ hP hD va_S.rf ls hl
abbrev rm_X8_fits : Room := { frames := 1, cells := 0, slots := 0, locals := 22 }
def rs_X8_fits_44 (x1 : Int32) : Int32 := (rs_X8_in x1 0 16)
def ok_X8_fits_44 (x1 : Int32) : Prop := ((ok_X8_in x1 0 16) ∧ ((narrow .boolean (.int (rs_X8_in x1 0 16)) = .int (rs_X8_in x1 0 16)) ∧ True))
set_option maxHeartbeats 4000000 in
set_option maxRecDepth 100000 in
theorem w_X8_fits_44 {p : Program} {l : Launch} {e : Env} {s : State} {m : MethodId} {args : Array Value} {below : List Frame} {meth : Method} {c : Code} {A : Nat → Prop} (C0 : Cx p s m args meth c RX8 cX8_fits (some .boolean) 2 wsX8_fits) (hA : ∀ q, s.heap.size ≤ q → A q) (Z : Int32) (x1 : Int32) (hok : ok_X8_fits_44 x1) (hZ : rs_X8_fits_44 x1 = Z) (H : Heap) (locs : List Loc) (hS : va_S A s.heap H locs) (ls : Array Slot) (hl : lv_has ls 2 [(1, .int x1)]) : W p l e rm_X8_fits s m args below meth c H locs 0 0 (MQ below (va_Qi (fun (r : Int32) (_ : Unit) => r = Z) (fun _ _ => True) A) args s 0 0 A) (F0 m 44 ls []) := by
  obtain ⟨hx, hb, hr, hml, hown, hts, hlocks⟩ := id C0
  rw [ok_X8_fits_44] at hok
  rw [rs_X8_fits_44] at hZ
  refine lv_iload_n hx hb dX8_fits_44 rfl (lv_at hl 0 rfl) ?_
  refine lv_iconst (v := 0) hx hb dX8_fits_45 (by decide) ?_
  refine lv_bipush (v := 16) hx hb dX8_fits_46 (by decide) ?_
  obtain ⟨k_1, hok⟩ := hok
  have hFc := wFr hS hA
  refine va_calli (va_runS (As := [.int x1, .int 0, .int 16]) (rest := []) ⟨hx, hb, hml, hown, hts⟩ (c_X8_in l H.size x1 0 16 k_1) (va_cwS 3 hts gX8_fits_X8_in rfl rfl rfl (by decide +kernel) ⟨Nat.le_of_ble_eq_true rfl, Nat.le_of_ble_eq_true rfl⟩) ⟨fun a9 U g9 mk9 q9 => q9, fun U hU hW => ⟨rfl, congrArg Array.size hU⟩⟩ rfl rfl hl.1 rfl (lv_room (Nat.le_of_ble_eq_true rfl)) dX8_fits_48 ⟨Nat.zero_le _, Nat.zero_le _⟩) hS (fun q _ h => hFc q h) hFc (fun r u t H1 locs ht hvm hw hB hz1 hk1 hS => ?_)
  subst hw
  generalize H1 = H at hS ⊢
  refine lv_goto (tgt := 73) hx hb dX8_fits_51 (by decide) ?_
  obtain ⟨h_2, hok⟩ := hok
  exact W.zret (v := (rs_X8_in x1 0 16)) hx hb hr h_2 (fun t ht hW => ⟨⟨(rs_X8_in x1 0 16), (), rfl, hZ, trivial⟩, hS.F ht⟩) hS.2.2 dX8_fits_73 hlocks
def rs_X8_fits_72  : Int32 := 0
def ok_X8_fits_72  : Prop := True
set_option maxHeartbeats 4000000 in
set_option maxRecDepth 100000 in
theorem w_X8_fits_72 {p : Program} {l : Launch} {e : Env} {s : State} {m : MethodId} {args : Array Value} {below : List Frame} {meth : Method} {c : Code} {A : Nat → Prop} (C0 : Cx p s m args meth c RX8 cX8_fits (some .boolean) 2 wsX8_fits) (hA : ∀ q, s.heap.size ≤ q → A q) (Z : Int32)  (hok : ok_X8_fits_72) (hZ : rs_X8_fits_72 = Z) (H : Heap) (locs : List Loc) (hS : va_S A s.heap H locs) (ls : Array Slot) (hl : lv_has ls 2 []) : W p l e rm_X8_fits s m args below meth c H locs 0 0 (MQ below (va_Qi (fun (r : Int32) (_ : Unit) => r = Z) (fun _ _ => True) A) args s 0 0 A) (F0 m 72 ls []) := by
  obtain ⟨hx, hb, hr, hml, hown, hts, hlocks⟩ := id C0
  rw [ok_X8_fits_72] at hok
  rw [rs_X8_fits_72] at hZ
  refine lv_iconst (v := 0) hx hb dX8_fits_72 (by decide) ?_
  exact W.zret (v := 0) hx hb hr rfl (fun t ht hW => ⟨⟨0, (), rfl, hZ, trivial⟩, hS.F ht⟩) hS.2.2 dX8_fits_73 hlocks
def rs_X8_fits (x0 : Int32) (x1 : Int32) : Int32 := (if x0 = 0 then (rs_X8_in x1 (-1000) 1000) else (if x0 = 1 then (rs_X8_in x1 0 7) else (if x0 = 10 then (rs_X8_fits_44 x1) else (if x0 = 11 then (rs_X8_fits_44 x1) else (if (rs_X8_in x0 2 12) = 0 then (rs_X8_fits_72 ) else (if x1 = 0 then 1 else (rs_X8_fits_72 )))))))
def ok_X8_fits (x0 : Int32) (x1 : Int32) : Prop := (if x0 = 0 then ((ok_X8_in x1 (-1000) 1000) ∧ ((narrow .boolean (.int (rs_X8_in x1 (-1000) 1000)) = .int (rs_X8_in x1 (-1000) 1000)) ∧ True)) else (if x0 = 1 then ((ok_X8_in x1 0 7) ∧ ((narrow .boolean (.int (rs_X8_in x1 0 7)) = .int (rs_X8_in x1 0 7)) ∧ True)) else (if x0 = 10 then ok_X8_fits_44 x1 else (if x0 = 11 then ok_X8_fits_44 x1 else ((ok_X8_in x0 2 12) ∧ (if (rs_X8_in x0 2 12) = 0 then ok_X8_fits_72  else (if x1 = 0 then True else ok_X8_fits_72 )))))))
set_option maxHeartbeats 4000000 in
set_option maxRecDepth 100000 in
theorem w_X8_fits {p : Program} {l : Launch} {e : Env} {s : State} {m : MethodId} {args : Array Value} {below : List Frame} {meth : Method} {c : Code} {A : Nat → Prop} (C0 : Cx p s m args meth c RX8 cX8_fits (some .boolean) 2 wsX8_fits) (hA : ∀ q, s.heap.size ≤ q → A q) (Z : Int32) (x0 : Int32) (x1 : Int32) (hok : ok_X8_fits x0 x1) (hZ : rs_X8_fits x0 x1 = Z) (H : Heap) (locs : List Loc) (hS : va_S A s.heap H locs) (ls : Array Slot) (hl : lv_has ls 2 [(0, .int x0), (1, .int x1)]) : W p l e rm_X8_fits s m args below meth c H locs 0 0 (MQ below (va_Qi (fun (r : Int32) (_ : Unit) => r = Z) (fun _ _ => True) A) args s 0 0 A) (F0 m 0 ls []) := by
  obtain ⟨hx, hb, hr, hml, hown, hts, hlocks⟩ := id C0
  rw [ok_X8_fits] at hok
  rw [rs_X8_fits] at hZ
  refine lv_iload_n hx hb dX8_fits_0 rfl (lv_at hl 0 rfl) ?_
  refine lv_if_ne (tgt := 17) hx hb dX8_fits_1 (by decide) (fun c_1 => ?_) (fun c_1 => ?_)
  · have hok := okF hok c_1
    have hZ := rsF hZ c_1
    refine lv_iload_n hx hb dX8_fits_17 rfl (lv_at hl 0 rfl) ?_
    refine lv_iconst (v := 1) hx hb dX8_fits_18 (by decide) ?_
    refine lv_icmp_ne (tgt := 32) hx hb dX8_fits_19 (by decide) (fun c_2 => ?_) (fun c_2 => ?_)
    · have hok := okF hok c_2
      have hZ := rsF hZ c_2
      refine lv_iload_n hx hb dX8_fits_32 rfl (lv_at hl 0 rfl) ?_
      refine lv_bipush (v := 10) hx hb dX8_fits_33 (by decide) ?_
      refine lv_icmp_eq (tgt := 44) hx hb dX8_fits_35 (by decide) (fun c_3 => ?_) (fun c_3 => ?_)
      · have hok := okT hok c_3
        have hZ := rsT hZ c_3
        exact w_X8_fits_44 C0  hA Z x1 hok hZ _ _ hS _ (lv_sub hl [1] rfl)
      · have hok := okF hok c_3
        have hZ := rsF hZ c_3
        refine lv_iload_n hx hb dX8_fits_38 rfl (lv_at hl 0 rfl) ?_
        refine lv_bipush (v := 11) hx hb dX8_fits_39 (by decide) ?_
        refine lv_icmp_ne (tgt := 54) hx hb dX8_fits_41 (by decide) (fun c_4 => ?_) (fun c_4 => ?_)
        · have hok := okF hok c_4
          have hZ := rsF hZ c_4
          refine lv_iload_n hx hb dX8_fits_54 rfl (lv_at hl 0 rfl) ?_
          refine lv_iconst (v := 2) hx hb dX8_fits_55 (by decide) ?_
          refine lv_bipush (v := 12) hx hb dX8_fits_56 (by decide) ?_
          obtain ⟨k_5, hok⟩ := hok
          have hFc := wFr hS hA
          refine va_calli (va_runS (As := [.int x0, .int 2, .int 12]) (rest := []) ⟨hx, hb, hml, hown, hts⟩ (c_X8_in l H.size x0 2 12 k_5) (va_cwS 3 hts gX8_fits_X8_in rfl rfl rfl (by decide +kernel) ⟨Nat.le_of_ble_eq_true rfl, Nat.le_of_ble_eq_true rfl⟩) ⟨fun a9 U g9 mk9 q9 => q9, fun U hU hW => ⟨rfl, congrArg Array.size hU⟩⟩ rfl rfl hl.1 rfl (lv_room (Nat.le_of_ble_eq_true rfl)) dX8_fits_58 ⟨Nat.zero_le _, Nat.zero_le _⟩) hS (fun q _ h => hFc q h) hFc (fun r u t H1 locs ht hvm hw hB hz1 hk1 hS => ?_)
          subst hw
          generalize H1 = H at hS ⊢
          refine lv_if_eq (tgt := 72) hx hb dX8_fits_61 (by decide) (fun c_6 => ?_) (fun c_6 => ?_)
          · have hok := okT hok c_6
            have hZ := rsT hZ c_6
            exact w_X8_fits_72 C0  hA Z  hok hZ _ _ hS _ (lv_sub hl [] rfl)
          · have hok := okF hok c_6
            have hZ := rsF hZ c_6
            refine lv_iload_n hx hb dX8_fits_64 rfl (lv_at hl 1 rfl) ?_
            refine lv_if_ne (tgt := 72) hx hb dX8_fits_65 (by decide) (fun c_7 => ?_) (fun c_7 => ?_)
            · have hok := okF hok c_7
              have hZ := rsF hZ c_7
              exact w_X8_fits_72 C0  hA Z  hok hZ _ _ hS _ (lv_sub hl [] rfl)
            · have hok := okT hok c_7
              have hZ := rsT hZ c_7
              refine lv_iconst (v := 1) hx hb dX8_fits_68 (by decide) ?_
              refine lv_goto (tgt := 73) hx hb dX8_fits_69 (by decide) ?_
              exact W.zret (v := 1) hx hb hr rfl (fun t ht hW => ⟨⟨1, (), rfl, hZ, trivial⟩, hS.F ht⟩) hS.2.2 dX8_fits_73 hlocks
        · have hok := okT hok c_4
          have hZ := rsT hZ c_4
          exact w_X8_fits_44 C0  hA Z x1 hok hZ _ _ hS _ (lv_sub hl [1] rfl)
    · have hok := okT hok c_2
      have hZ := rsT hZ c_2
      refine lv_iload_n hx hb dX8_fits_22 rfl (lv_at hl 1 rfl) ?_
      refine lv_iconst (v := 0) hx hb dX8_fits_23 (by decide) ?_
      refine lv_bipush (v := 7) hx hb dX8_fits_24 (by decide) ?_
      obtain ⟨k_8, hok⟩ := hok
      have hFc := wFr hS hA
      refine va_calli (va_runS (As := [.int x1, .int 0, .int 7]) (rest := []) ⟨hx, hb, hml, hown, hts⟩ (c_X8_in l H.size x1 0 7 k_8) (va_cwS 3 hts gX8_fits_X8_in rfl rfl rfl (by decide +kernel) ⟨Nat.le_of_ble_eq_true rfl, Nat.le_of_ble_eq_true rfl⟩) ⟨fun a9 U g9 mk9 q9 => q9, fun U hU hW => ⟨rfl, congrArg Array.size hU⟩⟩ rfl rfl hl.1 rfl (lv_room (Nat.le_of_ble_eq_true rfl)) dX8_fits_26 ⟨Nat.zero_le _, Nat.zero_le _⟩) hS (fun q _ h => hFc q h) hFc (fun r u t H1 locs ht hvm hw hB hz1 hk1 hS => ?_)
      subst hw
      generalize H1 = H at hS ⊢
      refine lv_goto (tgt := 73) hx hb dX8_fits_29 (by decide) ?_
      obtain ⟨h_9, hok⟩ := hok
      exact W.zret (v := (rs_X8_in x1 0 7)) hx hb hr h_9 (fun t ht hW => ⟨⟨(rs_X8_in x1 0 7), (), rfl, hZ, trivial⟩, hS.F ht⟩) hS.2.2 dX8_fits_73 hlocks
  · have hok := okT hok c_1
    have hZ := rsT hZ c_1
    refine lv_iload_n hx hb dX8_fits_4 rfl (lv_at hl 1 rfl) ?_
    refine lv_sipush (v := (-1000)) hx hb dX8_fits_5 (by decide) ?_
    refine lv_sipush (v := 1000) hx hb dX8_fits_8 (by decide) ?_
    obtain ⟨k_10, hok⟩ := hok
    have hFc := wFr hS hA
    refine va_calli (va_runS (As := [.int x1, .int (-1000), .int 1000]) (rest := []) ⟨hx, hb, hml, hown, hts⟩ (c_X8_in l H.size x1 (-1000) 1000 k_10) (va_cwS 3 hts gX8_fits_X8_in rfl rfl rfl (by decide +kernel) ⟨Nat.le_of_ble_eq_true rfl, Nat.le_of_ble_eq_true rfl⟩) ⟨fun a9 U g9 mk9 q9 => q9, fun U hU hW => ⟨rfl, congrArg Array.size hU⟩⟩ rfl rfl hl.1 rfl (lv_room (Nat.le_of_ble_eq_true rfl)) dX8_fits_11 ⟨Nat.zero_le _, Nat.zero_le _⟩) hS (fun q _ h => hFc q h) hFc (fun r u t H1 locs ht hvm hw hB hz1 hk1 hS => ?_)
    subst hw
    generalize H1 = H at hS ⊢
    refine lv_goto (tgt := 73) hx hb dX8_fits_14 (by decide) ?_
    obtain ⟨h_11, hok⟩ := hok
    exact W.zret (v := (rs_X8_in x1 (-1000) 1000)) hx hb hr h_11 (fun t ht hW => ⟨⟨(rs_X8_in x1 (-1000) 1000), (), rfl, hZ, trivial⟩, hS.F ht⟩) hS.2.2 dX8_fits_73 hlocks
set_option maxHeartbeats 4000000 in
set_option maxRecDepth 100000 in
theorem c_X8_fits (l : Launch) (sz : Nat) (x0 : Int32) (x1 : Int32) (hok : ok_X8_fits x0 x1) : Met l yX8_fits wsX8_fits rm_X8_fits (va_Pc [.int x0, .int x1] (fun U => U.heap.size = sz)) (va_Qi (fun (r : Int32) (_ : Unit) => r = rs_X8_fits x0 x1) (fun _ _ => True) (va_A [] sz)) 0 0 (va_A [] sz) := by
  refine Met.ofW (cc := cX8_fits) (maxL := 2) (ret := (some .boolean)) (by decide) rfl ?_
  intro p e s m args below meth c s₁ B hml hv
  obtain ⟨rfl, hsz⟩ := hv
  subst hsz
  have hl := lv_entry ([.int x0, .int x1]) (n := 2) (Nat.le_of_ble_eq_true rfl)
  rw [lg_entry_eq]
  generalize (lg_sl ([.int x0, .int x1]) ++ List.replicate (2 - (lg_sl ([.int x0, .int x1])).length) Slot.unset).toArray = ls at hl ⊢
  have hl : lv_has ls 2 [(0, .int x0), (1, .int x1)] := hl
  exact w_X8_fits ⟨B.exec, B.bytes, B.returns, hml, findClass_of_methodNamed B.named, atoms_spec (ws := wsX8_fits) B.pre, B.notSynchronized⟩ (fun q h => Or.inr h) _ x0 x1 hok rfl _ _ va_S.rf ls hl
abbrev rm_X8_operation : Room := { frames := 2, cells := 0, slots := 0, locals := 43 }
theorem iX8_operation_X8 : ∀ w ∈ wsX80, w ∈ wsX8_operation := by decide +kernel
def rs_X8_operation_21 (S : St) (z0 : Int32) : Int32 × St := (z0, S)
def ok_X8_operation_21 (S : St) (z0 : Int32) : Prop := True
set_option maxHeartbeats 4000000 in
set_option maxRecDepth 100000 in
theorem w_X8_operation_21 {p : Program} {l : Launch} {e : Env} {s : State} {m : MethodId} {args : Array Value} {below : List Frame} {meth : Method} {c : Code} {dC : Nat → ClassId} {dI : Nat → Nat → Nat} {cI cZ : ClassId} {a : Nat → Nat} {A : Nat → Prop} (C0 : Cx p s m args meth c RX8 cX8_operation (some .int) 4 wsX8_operation) (hK : va_K (dC, dI) vwCl (tI cI cZ) s) (hA : ∀ q, s.heap.size ≤ q → A q) (Z : Int32 × St) (S : St) (z0 : Int32) (hok : ok_X8_operation_21 S z0) (hZ : rs_X8_operation_21 S z0 = Z) (H : Heap) (locs : List Loc) (hP : va_P (dC, dI) vwCl (mW cI cZ a S) H) (hD : va_D A (mW cI cZ a S)) (hS : va_S A s.heap H locs) (ls : Array Slot) (hl : lv_has ls 4 []) : W p l e rm_X8_operation s m args below meth c H locs 0 0 (MQ below (va_Qi (fun (r : Int32) (u : St) => (r, u) = Z) (mWB dC dI cI cZ a A) A) args s 0 0 A) (F0 m 21 ls [.int z0]) := by
  obtain ⟨hx, hb, hr, hml, hown, hts, hlocks⟩ := id C0
  rw [ok_X8_operation_21] at hok
  rw [rs_X8_operation_21] at hZ
  exact W.iret (v := z0) hx hb hr (fun t ht hW => ⟨⟨z0, S, rfl, hZ, by rw [ht]; exact hP, va_K.moved hW.alike hK, hD⟩, hS.F ht⟩) hS.2.2 dX8_operation_21 hlocks
def rs_X8_operation_16 (S : St)  : Int32 × St := (rs_X8_operation_21 (rs_X8_refuse S 1).2 ((rs_X8_refuse S 1).1))
def ok_X8_operation_16 (S : St)  : Prop := ((ok_X8_refuse S 1) ∧ ok_X8_operation_21 (rs_X8_refuse S 1).2 ((rs_X8_refuse S 1).1))
set_option maxHeartbeats 4000000 in
set_option maxRecDepth 100000 in
theorem w_X8_operation_16 {p : Program} {l : Launch} {e : Env} {s : State} {m : MethodId} {args : Array Value} {below : List Frame} {meth : Method} {c : Code} {dC : Nat → ClassId} {dI : Nat → Nat → Nat} {cI cZ : ClassId} {a : Nat → Nat} {A : Nat → Prop} (C0 : Cx p s m args meth c RX8 cX8_operation (some .int) 4 wsX8_operation) (hK : va_K (dC, dI) vwCl (tI cI cZ) s) (hA : ∀ q, s.heap.size ≤ q → A q) (Z : Int32 × St) (S : St)  (hok : ok_X8_operation_16 S) (hZ : rs_X8_operation_16 S = Z) (H : Heap) (locs : List Loc) (hP : va_P (dC, dI) vwCl (mW cI cZ a S) H) (hD : va_D A (mW cI cZ a S)) (hS : va_S A s.heap H locs) (ls : Array Slot) (hl : lv_has ls 4 [(0, .ref (a 0))]) : W p l e rm_X8_operation s m args below meth c H locs 0 0 (MQ below (va_Qi (fun (r : Int32) (u : St) => (r, u) = Z) (mWB dC dI cI cZ a A) A) args s 0 0 A) (F0 m 16 ls []) := by
  obtain ⟨hx, hb, hr, hml, hown, hts, hlocks⟩ := id C0
  rw [ok_X8_operation_16] at hok
  rw [rs_X8_operation_16] at hZ
  refine lv_aload_n hx hb dX8_operation_16 rfl (lv_at hl 0 rfl) ?_
  refine lv_iconst (v := 1) hx hb dX8_operation_17 (by decide) ?_
  obtain ⟨k_1, hok⟩ := hok
  have hFc := wFw (w := mW cI cZ a S) hD hS hA
  refine va_calli (va_runV (As := [.int 1]) (rest := []) ⟨hx, hb, hml, hown, hts⟩ (c_X8_refuse l dC dI cI cZ a H.size S 1 k_1) (cwV 1 hts gX8_operation_X8_refuse rfl rfl rfl (by decide +kernel) ⟨Nat.le_of_ble_eq_true rfl, Nat.le_of_ble_eq_true rfl⟩) ⟨wBl, va_recv hK hP (ci := 7) (q0 := 0) rfl rfl, fun U hU hW => ⟨rfl, by rw [hU], by rw [hU]; exact hP, va_K.moved hW.alike hK, hD.weaken (fun _ _ _ _ => trivial)⟩⟩ rfl rfl hl.1 rfl (lv_room (Nat.le_of_ble_eq_true rfl)) dX8_operation_18 ⟨Nat.zero_le _, Nat.zero_le _⟩) hS (fun q _ h => hFc q h) hFc (fun r u t H1 locs ht hvm hw hB hz1 hk1 hS => ?_)
  obtain ⟨hP, hD⟩ := wJn ht hFc hB.1 hB.2.2
  have e1 : r = (rs_X8_refuse S 1).1 := congrArg Prod.fst hw
  have e2 : u = (rs_X8_refuse S 1).2 := congrArg Prod.snd hw
  rw [e1]
  rw [e2] at hP hD
  generalize H1 = H at hP hS ⊢
  exact w_X8_operation_21 C0 hK hA Z (rs_X8_refuse S 1).2 ((rs_X8_refuse S 1).1) hok hZ _ _ hP hD hS _ (lv_sub hl [] rfl)
def rs_X8_operation_52 (S : St) (z0 : Int32) : Int32 × St := (z0, S)
def ok_X8_operation_52 (S : St) (z0 : Int32) : Prop := True
set_option maxHeartbeats 4000000 in
set_option maxRecDepth 100000 in
theorem w_X8_operation_52 {p : Program} {l : Launch} {e : Env} {s : State} {m : MethodId} {args : Array Value} {below : List Frame} {meth : Method} {c : Code} {dC : Nat → ClassId} {dI : Nat → Nat → Nat} {cI cZ : ClassId} {a : Nat → Nat} {A : Nat → Prop} (C0 : Cx p s m args meth c RX8 cX8_operation (some .int) 4 wsX8_operation) (hK : va_K (dC, dI) vwCl (tI cI cZ) s) (hA : ∀ q, s.heap.size ≤ q → A q) (Z : Int32 × St) (S : St) (z0 : Int32) (hok : ok_X8_operation_52 S z0) (hZ : rs_X8_operation_52 S z0 = Z) (H : Heap) (locs : List Loc) (hP : va_P (dC, dI) vwCl (mW cI cZ a S) H) (hD : va_D A (mW cI cZ a S)) (hS : va_S A s.heap H locs) (ls : Array Slot) (hl : lv_has ls 4 []) : W p l e rm_X8_operation s m args below meth c H locs 0 0 (MQ below (va_Qi (fun (r : Int32) (u : St) => (r, u) = Z) (mWB dC dI cI cZ a A) A) args s 0 0 A) (F0 m 52 ls [.int z0]) := by
  obtain ⟨hx, hb, hr, hml, hown, hts, hlocks⟩ := id C0
  rw [ok_X8_operation_52] at hok
  rw [rs_X8_operation_52] at hZ
  exact W.iret (v := z0) hx hb hr (fun t ht hW => ⟨⟨z0, S, rfl, hZ, by rw [ht]; exact hP, va_K.moved hW.alike hK, hD⟩, hS.F ht⟩) hS.2.2 dX8_operation_52 hlocks
def rs_X8_operation_47 (S : St)  : Int32 × St := (rs_X8_operation_52 (rs_X8_refuse S 2).2 ((rs_X8_refuse S 2).1))
def ok_X8_operation_47 (S : St)  : Prop := ((ok_X8_refuse S 2) ∧ ok_X8_operation_52 (rs_X8_refuse S 2).2 ((rs_X8_refuse S 2).1))
set_option maxHeartbeats 4000000 in
set_option maxRecDepth 100000 in
theorem w_X8_operation_47 {p : Program} {l : Launch} {e : Env} {s : State} {m : MethodId} {args : Array Value} {below : List Frame} {meth : Method} {c : Code} {dC : Nat → ClassId} {dI : Nat → Nat → Nat} {cI cZ : ClassId} {a : Nat → Nat} {A : Nat → Prop} (C0 : Cx p s m args meth c RX8 cX8_operation (some .int) 4 wsX8_operation) (hK : va_K (dC, dI) vwCl (tI cI cZ) s) (hA : ∀ q, s.heap.size ≤ q → A q) (Z : Int32 × St) (S : St)  (hok : ok_X8_operation_47 S) (hZ : rs_X8_operation_47 S = Z) (H : Heap) (locs : List Loc) (hP : va_P (dC, dI) vwCl (mW cI cZ a S) H) (hD : va_D A (mW cI cZ a S)) (hS : va_S A s.heap H locs) (ls : Array Slot) (hl : lv_has ls 4 [(0, .ref (a 0))]) : W p l e rm_X8_operation s m args below meth c H locs 0 0 (MQ below (va_Qi (fun (r : Int32) (u : St) => (r, u) = Z) (mWB dC dI cI cZ a A) A) args s 0 0 A) (F0 m 47 ls []) := by
  obtain ⟨hx, hb, hr, hml, hown, hts, hlocks⟩ := id C0
  rw [ok_X8_operation_47] at hok
  rw [rs_X8_operation_47] at hZ
  refine lv_aload_n hx hb dX8_operation_47 rfl (lv_at hl 0 rfl) ?_
  refine lv_iconst (v := 2) hx hb dX8_operation_48 (by decide) ?_
  obtain ⟨k_1, hok⟩ := hok
  have hFc := wFw (w := mW cI cZ a S) hD hS hA
  refine va_calli (va_runV (As := [.int 2]) (rest := []) ⟨hx, hb, hml, hown, hts⟩ (c_X8_refuse l dC dI cI cZ a H.size S 2 k_1) (cwV 1 hts gX8_operation_X8_refuse rfl rfl rfl (by decide +kernel) ⟨Nat.le_of_ble_eq_true rfl, Nat.le_of_ble_eq_true rfl⟩) ⟨wBl, va_recv hK hP (ci := 7) (q0 := 0) rfl rfl, fun U hU hW => ⟨rfl, by rw [hU], by rw [hU]; exact hP, va_K.moved hW.alike hK, hD.weaken (fun _ _ _ _ => trivial)⟩⟩ rfl rfl hl.1 rfl (lv_room (Nat.le_of_ble_eq_true rfl)) dX8_operation_49 ⟨Nat.zero_le _, Nat.zero_le _⟩) hS (fun q _ h => hFc q h) hFc (fun r u t H1 locs ht hvm hw hB hz1 hk1 hS => ?_)
  obtain ⟨hP, hD⟩ := wJn ht hFc hB.1 hB.2.2
  have e1 : r = (rs_X8_refuse S 2).1 := congrArg Prod.fst hw
  have e2 : u = (rs_X8_refuse S 2).2 := congrArg Prod.snd hw
  rw [e1]
  rw [e2] at hP hD
  generalize H1 = H at hP hS ⊢
  exact w_X8_operation_52 C0 hK hA Z (rs_X8_refuse S 2).2 ((rs_X8_refuse S 2).1) hok hZ _ _ hP hD hS _ (lv_sub hl [] rfl)
def rs_X8_operation_92 (S : St) (x1 : Int32) : Int32 × St := ((((sA S 6 x1.toNatClampNeg (((S.2 6) x1.toNatClampNeg) + 1)).2 6) x1.toNatClampNeg), (sA S 6 x1.toNatClampNeg (((S.2 6) x1.toNatClampNeg) + 1)))
def ok_X8_operation_92 (S : St) (x1 : Int32) : Prop := ((vp_in x1 12) ∧ ((vp_in x1 12) ∧ ((vp_in x1 12) ∧ True)))
set_option maxHeartbeats 4000000 in
set_option maxRecDepth 100000 in
theorem w_X8_operation_92 {p : Program} {l : Launch} {e : Env} {s : State} {m : MethodId} {args : Array Value} {below : List Frame} {meth : Method} {c : Code} {dC : Nat → ClassId} {dI : Nat → Nat → Nat} {cI cZ : ClassId} {a : Nat → Nat} {A : Nat → Prop} (C0 : Cx p s m args meth c RX8 cX8_operation (some .int) 4 wsX8_operation) (hK : va_K (dC, dI) vwCl (tI cI cZ) s) (hA : ∀ q, s.heap.size ≤ q → A q) (Z : Int32 × St) (S : St) (x1 : Int32) (hok : ok_X8_operation_92 S x1) (hZ : rs_X8_operation_92 S x1 = Z) (H : Heap) (locs : List Loc) (hP : va_P (dC, dI) vwCl (mW cI cZ a S) H) (hD : va_D A (mW cI cZ a S)) (hS : va_S A s.heap H locs) (ls : Array Slot) (hl : lv_has ls 4 [(0, .ref (a 0)), (1, .int x1)]) : W p l e rm_X8_operation s m args below meth c H locs 0 0 (MQ below (va_Qi (fun (r : Int32) (u : St) => (r, u) = Z) (mWB dC dI cI cZ a A) A) args s 0 0 A) (F0 m 92 ls []) := by
  obtain ⟨hx, hb, hr, hml, hown, hts, hlocks⟩ := id C0
  rw [ok_X8_operation_92] at hok
  rw [rs_X8_operation_92] at hZ
  refine lv_aload_n hx hb dX8_operation_92 rfl (lv_at hl 0 rfl) ?_
  refine va_get (D := (dC, dI)) (ci := 7) (v := .ref (a 6)) (C := RX8) (T := TX8) (N := 35) hx hb hts iX8_operation_X8 hown hK hP 0 rfl rfl 8 (by decide) (hts (.fieldLink RX8 26 "RiskHouseModel" "size" "[I") (by decide +kernel)) (fun _ h9 => h9) rfl dX8_operation_93 ?_
  refine lv_iload_n hx hb dX8_operation_96 rfl (lv_at hl 1 rfl) ?_
  refine lv_dup2_11 hx hb dX8_operation_97 rfl rfl ?_
  obtain ⟨h_1, hok⟩ := hok
  refine va_iald (f := (S.2 6)) hx hb hK hP 6 0 rfl rfl h_1 dX8_operation_98 ?_
  refine lv_iconst (v := 1) hx hb dX8_operation_99 (by decide) ?_
  refine lv_iadd hx hb dX8_operation_100 ?_
  obtain ⟨h_2, hok⟩ := hok
  refine va_iast hx hb hK hP hD hS 6 0 rfl rfl h_2 dX8_operation_101 (fun H locs hP hD hS => ?_)
  have hP : va_P (dC, dI) vwCl (mW cI cZ a (sA S 6 x1.toNatClampNeg (((S.2 6) x1.toNatClampNeg) + 1))) H := hP
  have hD : va_D A (mW cI cZ a (sA S 6 x1.toNatClampNeg (((S.2 6) x1.toNatClampNeg) + 1))) := hD
  refine lv_aload_n hx hb dX8_operation_102 rfl (lv_at hl 0 rfl) ?_
  refine va_get (D := (dC, dI)) (ci := 7) (v := .ref (a 6)) (C := RX8) (T := TX8) (N := 35) hx hb hts iX8_operation_X8 hown hK hP 0 rfl rfl 8 (by decide) (hts (.fieldLink RX8 26 "RiskHouseModel" "size" "[I") (by decide +kernel)) (fun _ h9 => h9) rfl dX8_operation_103 ?_
  refine lv_iload_n hx hb dX8_operation_106 rfl (lv_at hl 1 rfl) ?_
  obtain ⟨h_3, hok⟩ := hok
  refine va_iald (f := ((sA S 6 x1.toNatClampNeg (((S.2 6) x1.toNatClampNeg) + 1)).2 6)) hx hb hK hP 6 0 rfl rfl h_3 dX8_operation_107 ?_
  exact W.iret (v := (((sA S 6 x1.toNatClampNeg (((S.2 6) x1.toNatClampNeg) + 1)).2 6) x1.toNatClampNeg)) hx hb hr (fun t ht hW => ⟨⟨(((sA S 6 x1.toNatClampNeg (((S.2 6) x1.toNatClampNeg) + 1)).2 6) x1.toNatClampNeg), (sA S 6 x1.toNatClampNeg (((S.2 6) x1.toNatClampNeg) + 1)), rfl, hZ, by rw [ht]; exact hP, va_K.moved hW.alike hK, hD⟩, hS.F ht⟩) hS.2.2 dX8_operation_108 hlocks
def rs_X8_operation_75 (S : St) (x1 : Int32) (x3 : Int32) : Int32 × St := (rs_X8_operation_92 (sA S 10 ((16 * x1) + ((S.2 6) x1.toNatClampNeg)).toNatClampNeg x3) x1)
def ok_X8_operation_75 (S : St) (x1 : Int32) (x3 : Int32) : Prop := ((vp_in x1 12) ∧ ((vp_in ((16 * x1) + ((S.2 6) x1.toNatClampNeg)) 192) ∧ ok_X8_operation_92 (sA S 10 ((16 * x1) + ((S.2 6) x1.toNatClampNeg)).toNatClampNeg x3) x1))
set_option maxHeartbeats 4000000 in
set_option maxRecDepth 100000 in
theorem w_X8_operation_75 {p : Program} {l : Launch} {e : Env} {s : State} {m : MethodId} {args : Array Value} {below : List Frame} {meth : Method} {c : Code} {dC : Nat → ClassId} {dI : Nat → Nat → Nat} {cI cZ : ClassId} {a : Nat → Nat} {A : Nat → Prop} (C0 : Cx p s m args meth c RX8 cX8_operation (some .int) 4 wsX8_operation) (hK : va_K (dC, dI) vwCl (tI cI cZ) s) (hA : ∀ q, s.heap.size ≤ q → A q) (Z : Int32 × St) (S : St) (x1 : Int32) (x3 : Int32) (hok : ok_X8_operation_75 S x1 x3) (hZ : rs_X8_operation_75 S x1 x3 = Z) (H : Heap) (locs : List Loc) (hP : va_P (dC, dI) vwCl (mW cI cZ a S) H) (hD : va_D A (mW cI cZ a S)) (hS : va_S A s.heap H locs) (ls : Array Slot) (hl : lv_has ls 4 [(0, .ref (a 0)), (1, .int x1), (3, .int x3)]) : W p l e rm_X8_operation s m args below meth c H locs 0 0 (MQ below (va_Qi (fun (r : Int32) (u : St) => (r, u) = Z) (mWB dC dI cI cZ a A) A) args s 0 0 A) (F0 m 75 ls []) := by
  obtain ⟨hx, hb, hr, hml, hown, hts, hlocks⟩ := id C0
  rw [ok_X8_operation_75] at hok
  rw [rs_X8_operation_75] at hZ
  refine lv_aload_n hx hb dX8_operation_75 rfl (lv_at hl 0 rfl) ?_
  refine va_get (D := (dC, dI)) (ci := 7) (v := .ref (a 8)) (C := RX8) (T := TX8) (N := 35) hx hb hts iX8_operation_X8 hown hK hP 0 rfl rfl 10 (by decide) (hts (.fieldLink RX8 32 "RiskHouseModel" "told" "[I") (by decide +kernel)) (fun _ h9 => h9) rfl dX8_operation_76 ?_
  refine lv_bipush (v := 16) hx hb dX8_operation_79 (by decide) ?_
  refine lv_iload_n hx hb dX8_operation_81 rfl (lv_at hl 1 rfl) ?_
  refine lv_imul hx hb dX8_operation_82 ?_
  refine lv_aload_n hx hb dX8_operation_83 rfl (lv_at hl 0 rfl) ?_
  refine va_get (D := (dC, dI)) (ci := 7) (v := .ref (a 6)) (C := RX8) (T := TX8) (N := 35) hx hb hts iX8_operation_X8 hown hK hP 0 rfl rfl 8 (by decide) (hts (.fieldLink RX8 26 "RiskHouseModel" "size" "[I") (by decide +kernel)) (fun _ h9 => h9) rfl dX8_operation_84 ?_
  refine lv_iload_n hx hb dX8_operation_87 rfl (lv_at hl 1 rfl) ?_
  obtain ⟨h_1, hok⟩ := hok
  refine va_iald (f := (S.2 6)) hx hb hK hP 6 0 rfl rfl h_1 dX8_operation_88 ?_
  refine lv_iadd hx hb dX8_operation_89 ?_
  refine lv_iload_n hx hb dX8_operation_90 rfl (lv_at hl 2 rfl) ?_
  obtain ⟨h_2, hok⟩ := hok
  refine va_iast hx hb hK hP hD hS 8 0 rfl rfl h_2 dX8_operation_91 (fun H locs hP hD hS => ?_)
  have hP : va_P (dC, dI) vwCl (mW cI cZ a (sA S 10 ((16 * x1) + ((S.2 6) x1.toNatClampNeg)).toNatClampNeg x3)) H := hP
  have hD : va_D A (mW cI cZ a (sA S 10 ((16 * x1) + ((S.2 6) x1.toNatClampNeg)).toNatClampNeg x3)) := hD
  exact w_X8_operation_92 C0 hK hA Z (sA S 10 ((16 * x1) + ((S.2 6) x1.toNatClampNeg)).toNatClampNeg x3) x1 hok hZ _ _ hP hD hS _ (lv_sub hl [0, 1] rfl)
def rs_X8_operation_58 (S : St) (x1 : Int32) (x2 : Int32) (x3 : Int32) : Int32 × St := (rs_X8_operation_75 (sA S 9 ((16 * x1) + ((S.2 6) x1.toNatClampNeg)).toNatClampNeg x2) x1 x3)
def ok_X8_operation_58 (S : St) (x1 : Int32) (x2 : Int32) (x3 : Int32) : Prop := ((vp_in x1 12) ∧ ((vp_in ((16 * x1) + ((S.2 6) x1.toNatClampNeg)) 192) ∧ ok_X8_operation_75 (sA S 9 ((16 * x1) + ((S.2 6) x1.toNatClampNeg)).toNatClampNeg x2) x1 x3))
set_option maxHeartbeats 4000000 in
set_option maxRecDepth 100000 in
theorem w_X8_operation_58 {p : Program} {l : Launch} {e : Env} {s : State} {m : MethodId} {args : Array Value} {below : List Frame} {meth : Method} {c : Code} {dC : Nat → ClassId} {dI : Nat → Nat → Nat} {cI cZ : ClassId} {a : Nat → Nat} {A : Nat → Prop} (C0 : Cx p s m args meth c RX8 cX8_operation (some .int) 4 wsX8_operation) (hK : va_K (dC, dI) vwCl (tI cI cZ) s) (hA : ∀ q, s.heap.size ≤ q → A q) (Z : Int32 × St) (S : St) (x1 : Int32) (x2 : Int32) (x3 : Int32) (hok : ok_X8_operation_58 S x1 x2 x3) (hZ : rs_X8_operation_58 S x1 x2 x3 = Z) (H : Heap) (locs : List Loc) (hP : va_P (dC, dI) vwCl (mW cI cZ a S) H) (hD : va_D A (mW cI cZ a S)) (hS : va_S A s.heap H locs) (ls : Array Slot) (hl : lv_has ls 4 [(0, .ref (a 0)), (1, .int x1), (2, .int x2), (3, .int x3)]) : W p l e rm_X8_operation s m args below meth c H locs 0 0 (MQ below (va_Qi (fun (r : Int32) (u : St) => (r, u) = Z) (mWB dC dI cI cZ a A) A) args s 0 0 A) (F0 m 58 ls []) := by
  obtain ⟨hx, hb, hr, hml, hown, hts, hlocks⟩ := id C0
  rw [ok_X8_operation_58] at hok
  rw [rs_X8_operation_58] at hZ
  refine lv_aload_n hx hb dX8_operation_58 rfl (lv_at hl 0 rfl) ?_
  refine va_get (D := (dC, dI)) (ci := 7) (v := .ref (a 7)) (C := RX8) (T := TX8) (N := 35) hx hb hts iX8_operation_X8 hown hK hP 0 rfl rfl 9 (by decide) (hts (.fieldLink RX8 29 "RiskHouseModel" "code" "[I") (by decide +kernel)) (fun _ h9 => h9) rfl dX8_operation_59 ?_
  refine lv_bipush (v := 16) hx hb dX8_operation_62 (by decide) ?_
  refine lv_iload_n hx hb dX8_operation_64 rfl (lv_at hl 1 rfl) ?_
  refine lv_imul hx hb dX8_operation_65 ?_
  refine lv_aload_n hx hb dX8_operation_66 rfl (lv_at hl 0 rfl) ?_
  refine va_get (D := (dC, dI)) (ci := 7) (v := .ref (a 6)) (C := RX8) (T := TX8) (N := 35) hx hb hts iX8_operation_X8 hown hK hP 0 rfl rfl 8 (by decide) (hts (.fieldLink RX8 26 "RiskHouseModel" "size" "[I") (by decide +kernel)) (fun _ h9 => h9) rfl dX8_operation_67 ?_
  refine lv_iload_n hx hb dX8_operation_70 rfl (lv_at hl 1 rfl) ?_
  obtain ⟨h_1, hok⟩ := hok
  refine va_iald (f := (S.2 6)) hx hb hK hP 6 0 rfl rfl h_1 dX8_operation_71 ?_
  refine lv_iadd hx hb dX8_operation_72 ?_
  refine lv_iload_n hx hb dX8_operation_73 rfl (lv_at hl 2 rfl) ?_
  obtain ⟨h_2, hok⟩ := hok
  refine va_iast hx hb hK hP hD hS 7 0 rfl rfl h_2 dX8_operation_74 (fun H locs hP hD hS => ?_)
  have hP : va_P (dC, dI) vwCl (mW cI cZ a (sA S 9 ((16 * x1) + ((S.2 6) x1.toNatClampNeg)).toNatClampNeg x2)) H := hP
  have hD : va_D A (mW cI cZ a (sA S 9 ((16 * x1) + ((S.2 6) x1.toNatClampNeg)).toNatClampNeg x2)) := hD
  exact w_X8_operation_75 C0 hK hA Z (sA S 9 ((16 * x1) + ((S.2 6) x1.toNatClampNeg)).toNatClampNeg x2) x1 x3 hok hZ _ _ hP hD hS _ (lv_sub hl [0, 1, 3] rfl)
def rs_X8_operation_5 (S : St) (x1 : Int32) (x2 : Int32) (x3 : Int32) (z0 : Int32) : Int32 × St := (if z0 = 0 then (rs_X8_operation_16 S) else (if (rs_X8_fits x2 x3) = 0 then (rs_X8_operation_16 S) else (if ((S.2 6) x1.toNatClampNeg) = 16 then (rs_X8_operation_47 S) else (if ((S.2 13) ((S.2 4) x1.toNatClampNeg).toNatClampNeg) ≤ 0 then (rs_X8_operation_58 (sI S 2000 0) x1 x2 x3) else (rs_X8_operation_47 S)))))
def ok_X8_operation_5 (S : St) (x1 : Int32) (x2 : Int32) (x3 : Int32) (z0 : Int32) : Prop := (if z0 = 0 then ok_X8_operation_16 S else ((ok_X8_fits x2 x3) ∧ (if (rs_X8_fits x2 x3) = 0 then ok_X8_operation_16 S else ((vp_in x1 12) ∧ (if ((S.2 6) x1.toNatClampNeg) = 16 then ok_X8_operation_47 S else ((vp_in x1 12) ∧ ((vp_in ((S.2 4) x1.toNatClampNeg) 4) ∧ (if ((S.2 13) ((S.2 4) x1.toNatClampNeg).toNatClampNeg) ≤ 0 then ok_X8_operation_58 (sI S 2000 0) x1 x2 x3 else ok_X8_operation_47 S))))))))
set_option maxHeartbeats 4000000 in
set_option maxRecDepth 100000 in
theorem w_X8_operation_5 {p : Program} {l : Launch} {e : Env} {s : State} {m : MethodId} {args : Array Value} {below : List Frame} {meth : Method} {c : Code} {dC : Nat → ClassId} {dI : Nat → Nat → Nat} {cI cZ : ClassId} {a : Nat → Nat} {A : Nat → Prop} (C0 : Cx p s m args meth c RX8 cX8_operation (some .int) 4 wsX8_operation) (hK : va_K (dC, dI) vwCl (tI cI cZ) s) (hA : ∀ q, s.heap.size ≤ q → A q) (Z : Int32 × St) (S : St) (x1 : Int32) (x2 : Int32) (x3 : Int32) (z0 : Int32) (hok : ok_X8_operation_5 S x1 x2 x3 z0) (hZ : rs_X8_operation_5 S x1 x2 x3 z0 = Z) (H : Heap) (locs : List Loc) (hP : va_P (dC, dI) vwCl (mW cI cZ a S) H) (hD : va_D A (mW cI cZ a S)) (hS : va_S A s.heap H locs) (ls : Array Slot) (hl : lv_has ls 4 [(0, .ref (a 0)), (1, .int x1), (2, .int x2), (3, .int x3)]) : W p l e rm_X8_operation s m args below meth c H locs 0 0 (MQ below (va_Qi (fun (r : Int32) (u : St) => (r, u) = Z) (mWB dC dI cI cZ a A) A) args s 0 0 A) (F0 m 5 ls [.int z0]) := by
  obtain ⟨hx, hb, hr, hml, hown, hts, hlocks⟩ := id C0
  rw [ok_X8_operation_5] at hok
  rw [rs_X8_operation_5] at hZ
  refine lv_if_eq (tgt := 16) hx hb dX8_operation_5 (by decide) (fun c_1 => ?_) (fun c_1 => ?_)
  · have hok := okT hok c_1
    have hZ := rsT hZ c_1
    exact w_X8_operation_16 C0 hK hA Z S hok hZ _ _ hP hD hS _ (lv_sub hl [0] rfl)
  · have hok := okF hok c_1
    have hZ := rsF hZ c_1
    refine lv_iload_n hx hb dX8_operation_8 rfl (lv_at hl 2 rfl) ?_
    refine lv_iload_n hx hb dX8_operation_9 rfl (lv_at hl 3 rfl) ?_
    obtain ⟨k_2, hok⟩ := hok
    have hFc := wFr hS hA
    refine va_calli (va_runS (As := [.int x2, .int x3]) (rest := []) ⟨hx, hb, hml, hown, hts⟩ (c_X8_fits l H.size x2 x3 k_2) (va_cwS 2 hts gX8_operation_X8_fits rfl rfl rfl (by decide +kernel) ⟨Nat.le_of_ble_eq_true rfl, Nat.le_of_ble_eq_true rfl⟩) ⟨fun a9 U g9 mk9 q9 => q9, fun U hU hW => ⟨rfl, congrArg Array.size hU⟩⟩ rfl rfl hl.1 rfl (lv_room (Nat.le_of_ble_eq_true rfl)) dX8_operation_10 ⟨Nat.zero_le _, Nat.zero_le _⟩) hS (fun q _ h => hFc q h) hFc (fun r u t H1 locs ht hvm hw hB hz1 hk1 hS => ?_)
    have hP := wKp hP hk1
    subst hw
    generalize H1 = H at hP hS ⊢
    refine lv_if_ne (tgt := 22) hx hb dX8_operation_13 (by decide) (fun c_3 => ?_) (fun c_3 => ?_)
    · have hok := okF hok c_3
      have hZ := rsF hZ c_3
      refine lv_aload_n hx hb dX8_operation_22 rfl (lv_at hl 0 rfl) ?_
      refine va_get (D := (dC, dI)) (ci := 7) (v := .ref (a 6)) (C := RX8) (T := TX8) (N := 35) hx hb hts iX8_operation_X8 hown hK hP 0 rfl rfl 8 (by decide) (hts (.fieldLink RX8 26 "RiskHouseModel" "size" "[I") (by decide +kernel)) (fun _ h9 => h9) rfl dX8_operation_23 ?_
      refine lv_iload_n hx hb dX8_operation_26 rfl (lv_at hl 1 rfl) ?_
      obtain ⟨h_4, hok⟩ := hok
      refine va_iald (f := (S.2 6)) hx hb hK hP 6 0 rfl rfl h_4 dX8_operation_27 ?_
      refine lv_bipush (v := 16) hx hb dX8_operation_28 (by decide) ?_
      refine lv_icmp_eq (tgt := 47) hx hb dX8_operation_30 (by decide) (fun c_5 => ?_) (fun c_5 => ?_)
      · have hok := okT hok c_5
        have hZ := rsT hZ c_5
        exact w_X8_operation_47 C0 hK hA Z S hok hZ _ _ hP hD hS _ (lv_sub hl [0] rfl)
      · have hok := okF hok c_5
        have hZ := rsF hZ c_5
        refine lv_aload_n hx hb dX8_operation_33 rfl (lv_at hl 0 rfl) ?_
        refine va_get (D := (dC, dI)) (ci := 7) (v := .ref (a 3)) (C := RX8) (T := TX8) (N := 35) hx hb hts iX8_operation_X8 hown hK hP 0 rfl rfl 4 (by decide) (hts (.fieldLink RX8 16 "RiskHouseModel" "started" "[I") (by decide +kernel)) (fun _ h9 => h9) rfl dX8_operation_34 ?_
        refine lv_aload_n hx hb dX8_operation_37 rfl (lv_at hl 0 rfl) ?_
        refine va_get (D := (dC, dI)) (ci := 7) (v := .ref (a 4)) (C := RX8) (T := TX8) (N := 35) hx hb hts iX8_operation_X8 hown hK hP 0 rfl rfl 6 (by decide) (hts (.fieldLink RX8 19 "RiskHouseModel" "editionOf" "[I") (by decide +kernel)) (fun _ h9 => h9) rfl dX8_operation_38 ?_
        refine lv_iload_n hx hb dX8_operation_41 rfl (lv_at hl 1 rfl) ?_
        obtain ⟨h_6, hok⟩ := hok
        refine va_iald (f := (S.2 4)) hx hb hK hP 4 0 rfl rfl h_6 dX8_operation_42 ?_
        obtain ⟨h_7, hok⟩ := hok
        refine va_iald (f := (S.2 13)) hx hb hK hP 3 0 rfl rfl h_7 dX8_operation_43 ?_
        refine lv_if_le (tgt := 53) hx hb dX8_operation_44 (by decide) (fun c_8 => ?_) (fun c_8 => ?_)
        · have hok := okT hok c_8
          have hZ := rsT hZ c_8
          refine lv_aload_n hx hb dX8_operation_53 rfl (lv_at hl 0 rfl) ?_
          refine lv_iconst (v := 0) hx hb dX8_operation_54 (by decide) ?_
          refine va_put (D := (dC, dI)) (ci := 7) (v := .int 0) (ty := .int) (C := RX8) (T := TX8) (N := 35) hx hb hts iX8_operation_X8 tyX8 tyX8_ok nmX8 hown hK hP hD hS 0 rfl rfl 0 (by decide) (hts (.fieldLink RX8 88 "RiskHouseModel" "thrown" "I") (by decide +kernel)) (fun _ h9 => h9) rfl (by decide +kernel) rfl rfl (Nat.le_of_ble_eq_true rfl) dX8_operation_55 (fun H locs hP hD hS => ?_)
          have hP : va_P (dC, dI) vwCl (mW cI cZ a (sI S 2000 0)) H := hP
          have hD : va_D A (mW cI cZ a (sI S 2000 0)) := hD
          exact w_X8_operation_58 C0 hK hA Z (sI S 2000 0) x1 x2 x3 hok hZ _ _ hP hD hS _ (lv_sub hl [0, 1, 2, 3] rfl)
        · have hok := okF hok c_8
          have hZ := rsF hZ c_8
          exact w_X8_operation_47 C0 hK hA Z S hok hZ _ _ hP hD hS _ (lv_sub hl [0] rfl)
    · have hok := okT hok c_3
      have hZ := rsT hZ c_3
      exact w_X8_operation_16 C0 hK hA Z S hok hZ _ _ hP hD hS _ (lv_sub hl [0] rfl)
def rs_X8_operation (S : St) (x1 : Int32) (x2 : Int32) (x3 : Int32) : Int32 × St := (rs_X8_operation_5 (rs_X8_isRule S x1).2 x1 x2 x3 ((rs_X8_isRule S x1).1))
def ok_X8_operation (S : St) (x1 : Int32) (x2 : Int32) (x3 : Int32) : Prop := ((ok_X8_isRule S x1) ∧ ok_X8_operation_5 (rs_X8_isRule S x1).2 x1 x2 x3 ((rs_X8_isRule S x1).1))
set_option maxHeartbeats 4000000 in
set_option maxRecDepth 100000 in
theorem w_X8_operation {p : Program} {l : Launch} {e : Env} {s : State} {m : MethodId} {args : Array Value} {below : List Frame} {meth : Method} {c : Code} {dC : Nat → ClassId} {dI : Nat → Nat → Nat} {cI cZ : ClassId} {a : Nat → Nat} {A : Nat → Prop} (C0 : Cx p s m args meth c RX8 cX8_operation (some .int) 4 wsX8_operation) (hK : va_K (dC, dI) vwCl (tI cI cZ) s) (hA : ∀ q, s.heap.size ≤ q → A q) (Z : Int32 × St) (S : St) (x1 : Int32) (x2 : Int32) (x3 : Int32) (hok : ok_X8_operation S x1 x2 x3) (hZ : rs_X8_operation S x1 x2 x3 = Z) (H : Heap) (locs : List Loc) (hP : va_P (dC, dI) vwCl (mW cI cZ a S) H) (hD : va_D A (mW cI cZ a S)) (hS : va_S A s.heap H locs) (ls : Array Slot) (hl : lv_has ls 4 [(0, .ref (a 0)), (1, .int x1), (2, .int x2), (3, .int x3)]) : W p l e rm_X8_operation s m args below meth c H locs 0 0 (MQ below (va_Qi (fun (r : Int32) (u : St) => (r, u) = Z) (mWB dC dI cI cZ a A) A) args s 0 0 A) (F0 m 0 ls []) := by
  obtain ⟨hx, hb, hr, hml, hown, hts, hlocks⟩ := id C0
  rw [ok_X8_operation] at hok
  rw [rs_X8_operation] at hZ
  refine lv_aload_n hx hb dX8_operation_0 rfl (lv_at hl 0 rfl) ?_
  refine lv_iload_n hx hb dX8_operation_1 rfl (lv_at hl 1 rfl) ?_
  obtain ⟨k_1, hok⟩ := hok
  have hFc := wFw (w := mW cI cZ a S) hD hS hA
  refine va_calli (va_runV (As := [.int x1]) (rest := []) ⟨hx, hb, hml, hown, hts⟩ (c_X8_isRule l dC dI cI cZ a H.size S x1 k_1) (cwV 1 hts gX8_operation_X8_isRule rfl rfl rfl (by decide +kernel) ⟨Nat.le_of_ble_eq_true rfl, Nat.le_of_ble_eq_true rfl⟩) ⟨wBl, va_recv hK hP (ci := 7) (q0 := 0) rfl rfl, fun U hU hW => ⟨rfl, by rw [hU], by rw [hU]; exact hP, va_K.moved hW.alike hK, hD.weaken (fun _ _ _ _ => trivial)⟩⟩ rfl rfl hl.1 rfl (lv_room (Nat.le_of_ble_eq_true rfl)) dX8_operation_2 ⟨Nat.zero_le _, Nat.zero_le _⟩) hS (fun q _ h => hFc q h) hFc (fun r u t H1 locs ht hvm hw hB hz1 hk1 hS => ?_)
  obtain ⟨hP, hD⟩ := wJn ht hFc hB.1 hB.2.2
  have e1 : r = (rs_X8_isRule S x1).1 := congrArg Prod.fst hw
  have e2 : u = (rs_X8_isRule S x1).2 := congrArg Prod.snd hw
  rw [e1]
  rw [e2] at hP hD
  generalize H1 = H at hP hS ⊢
  exact w_X8_operation_5 C0 hK hA Z (rs_X8_isRule S x1).2 x1 x2 x3 ((rs_X8_isRule S x1).1) hok hZ _ _ hP hD hS _ (lv_sub hl [0, 1, 2, 3] rfl)
set_option maxHeartbeats 4000000 in
set_option maxRecDepth 100000 in
theorem c_X8_operation (l : Launch) (dC : Nat → ClassId) (dI : Nat → Nat → Nat) (cI cZ : ClassId) (a : Nat → Nat) (sz : Nat) (S : St) (x1 : Int32) (x2 : Int32) (x3 : Int32) (hok : ok_X8_operation S x1 x2 x3) : Met l yX8_operation wsX8_operation rm_X8_operation (va_Pc [.ref (a 0), .int x1, .int x2, .int x3] (mWP dC dI cI cZ a sz S)) (va_Qi (fun (r : Int32) (u : St) => (r, u) = rs_X8_operation S x1 x2 x3) (mWB dC dI cI cZ a (va_A (mW cI cZ a S) sz)) (va_A (mW cI cZ a S) sz)) 0 0 (va_A (mW cI cZ a S) sz) := by
  refine Met.ofW (cc := cX8_operation) (maxL := 4) (ret := (some .int)) (by decide) rfl ?_
  intro p e s m args below meth c s₁ B hml hv
  obtain ⟨rfl, hsz, hP, hK, hD0⟩ := hv
  subst hsz
  have hD := hD0.self (sz := s.heap.size)
  have hl := lv_entry ([.ref (a 0), .int x1, .int x2, .int x3]) (n := 4) (Nat.le_of_ble_eq_true rfl)
  rw [lg_entry_eq]
  generalize (lg_sl ([.ref (a 0), .int x1, .int x2, .int x3]) ++ List.replicate (4 - (lg_sl ([.ref (a 0), .int x1, .int x2, .int x3])).length) Slot.unset).toArray = ls at hl ⊢
  have hl : lv_has ls 4 [(0, .ref (a 0)), (1, .int x1), (2, .int x2), (3, .int x3)] := hl
  exact w_X8_operation ⟨B.exec, B.bytes, B.returns, hml, findClass_of_methodNamed B.named, atoms_spec (ws := wsX8_operation) B.pre, B.notSynchronized⟩ hK (fun q h => Or.inr h) _ S x1 x2 x3 hok rfl _ _ hP hD va_S.rf ls hl
abbrev rm_X8_field : Room := { frames := 1, cells := 0, slots := 0, locals := 22 }
theorem iX8_field_X8 : ∀ w ∈ wsX80, w ∈ wsX8_field := by decide +kernel
def rs_X8_field_28 (S : St)  : Int32 × St := (0, S)
def ok_X8_field_28 (S : St)  : Prop := True
set_option maxHeartbeats 4000000 in
set_option maxRecDepth 100000 in
theorem w_X8_field_28 {p : Program} {l : Launch} {e : Env} {s : State} {m : MethodId} {args : Array Value} {below : List Frame} {meth : Method} {c : Code} {dC : Nat → ClassId} {dI : Nat → Nat → Nat} {cI cZ : ClassId} {a : Nat → Nat} {A : Nat → Prop} (C0 : Cx p s m args meth c RX8 cX8_field (some .boolean) 3 wsX8_field) (hK : va_K (dC, dI) vwCl (tI cI cZ) s) (hA : ∀ q, s.heap.size ≤ q → A q) (Z : Int32 × St) (S : St)  (hok : ok_X8_field_28 S) (hZ : rs_X8_field_28 S = Z) (H : Heap) (locs : List Loc) (hP : va_P (dC, dI) vwCl (mW cI cZ a S) H) (hD : va_D A (mW cI cZ a S)) (hS : va_S A s.heap H locs) (ls : Array Slot) (hl : lv_has ls 3 []) : W p l e rm_X8_field s m args below meth c H locs 0 0 (MQ below (va_Qi (fun (r : Int32) (u : St) => (r, u) = Z) (mWB dC dI cI cZ a A) A) args s 0 0 A) (F0 m 28 ls []) := by
  obtain ⟨hx, hb, hr, hml, hown, hts, hlocks⟩ := id C0
  rw [ok_X8_field_28] at hok
  rw [rs_X8_field_28] at hZ
  refine lv_iconst (v := 0) hx hb dX8_field_28 (by decide) ?_
  exact W.zret (v := 0) hx hb hr rfl (fun t ht hW => ⟨⟨0, S, rfl, hZ, by rw [ht]; exact hP, va_K.moved hW.alike hK, hD⟩, hS.F ht⟩) hS.2.2 dX8_field_29 hlocks
def rs_X8_field_5 (S : St) (x1 : Int32) (x2 : Int32) : Int32 × St := (if (rs_X8_in x1 0 7) = 0 then (rs_X8_field_28 S) else (if (rs_X8_in x2 (-1000) 1000) = 0 then (rs_X8_field_28 S) else (1, (sA S 1 x1.toNatClampNeg x2))))
def ok_X8_field_5 (S : St) (x1 : Int32) (x2 : Int32) : Prop := ((ok_X8_in x1 0 7) ∧ (if (rs_X8_in x1 0 7) = 0 then ok_X8_field_28 S else ((ok_X8_in x2 (-1000) 1000) ∧ (if (rs_X8_in x2 (-1000) 1000) = 0 then ok_X8_field_28 S else ((vp_in x1 8) ∧ True)))))
set_option maxHeartbeats 4000000 in
set_option maxRecDepth 100000 in
theorem w_X8_field_5 {p : Program} {l : Launch} {e : Env} {s : State} {m : MethodId} {args : Array Value} {below : List Frame} {meth : Method} {c : Code} {dC : Nat → ClassId} {dI : Nat → Nat → Nat} {cI cZ : ClassId} {a : Nat → Nat} {A : Nat → Prop} (C0 : Cx p s m args meth c RX8 cX8_field (some .boolean) 3 wsX8_field) (hK : va_K (dC, dI) vwCl (tI cI cZ) s) (hA : ∀ q, s.heap.size ≤ q → A q) (Z : Int32 × St) (S : St) (x1 : Int32) (x2 : Int32) (hok : ok_X8_field_5 S x1 x2) (hZ : rs_X8_field_5 S x1 x2 = Z) (H : Heap) (locs : List Loc) (hP : va_P (dC, dI) vwCl (mW cI cZ a S) H) (hD : va_D A (mW cI cZ a S)) (hS : va_S A s.heap H locs) (ls : Array Slot) (hl : lv_has ls 3 [(0, .ref (a 0)), (1, .int x1), (2, .int x2)]) : W p l e rm_X8_field s m args below meth c H locs 0 0 (MQ below (va_Qi (fun (r : Int32) (u : St) => (r, u) = Z) (mWB dC dI cI cZ a A) A) args s 0 0 A) (F0 m 5 ls []) := by
  obtain ⟨hx, hb, hr, hml, hown, hts, hlocks⟩ := id C0
  rw [ok_X8_field_5] at hok
  rw [rs_X8_field_5] at hZ
  refine lv_iload_n hx hb dX8_field_5 rfl (lv_at hl 1 rfl) ?_
  refine lv_iconst (v := 0) hx hb dX8_field_6 (by decide) ?_
  refine lv_bipush (v := 7) hx hb dX8_field_7 (by decide) ?_
  obtain ⟨k_1, hok⟩ := hok
  have hFc := wFr hS hA
  refine va_calli (va_runS (As := [.int x1, .int 0, .int 7]) (rest := []) ⟨hx, hb, hml, hown, hts⟩ (c_X8_in l H.size x1 0 7 k_1) (va_cwS 3 hts gX8_field_X8_in rfl rfl rfl (by decide +kernel) ⟨Nat.le_of_ble_eq_true rfl, Nat.le_of_ble_eq_true rfl⟩) ⟨fun a9 U g9 mk9 q9 => q9, fun U hU hW => ⟨rfl, congrArg Array.size hU⟩⟩ rfl rfl hl.1 rfl (lv_room (Nat.le_of_ble_eq_true rfl)) dX8_field_9 ⟨Nat.zero_le _, Nat.zero_le _⟩) hS (fun q _ h => hFc q h) hFc (fun r u t H1 locs ht hvm hw hB hz1 hk1 hS => ?_)
  have hP := wKp hP hk1
  subst hw
  generalize H1 = H at hP hS ⊢
  refine lv_if_eq (tgt := 28) hx hb dX8_field_12 (by decide) (fun c_2 => ?_) (fun c_2 => ?_)
  · have hok := okT hok c_2
    have hZ := rsT hZ c_2
    exact w_X8_field_28 C0 hK hA Z S hok hZ _ _ hP hD hS _ (lv_sub hl [] rfl)
  · have hok := okF hok c_2
    have hZ := rsF hZ c_2
    refine lv_iload_n hx hb dX8_field_15 rfl (lv_at hl 2 rfl) ?_
    refine lv_sipush (v := (-1000)) hx hb dX8_field_16 (by decide) ?_
    refine lv_sipush (v := 1000) hx hb dX8_field_19 (by decide) ?_
    obtain ⟨k_3, hok⟩ := hok
    have hFc := wFr hS hA
    refine va_calli (va_runS (As := [.int x2, .int (-1000), .int 1000]) (rest := []) ⟨hx, hb, hml, hown, hts⟩ (c_X8_in l H.size x2 (-1000) 1000 k_3) (va_cwS 3 hts gX8_field_X8_in rfl rfl rfl (by decide +kernel) ⟨Nat.le_of_ble_eq_true rfl, Nat.le_of_ble_eq_true rfl⟩) ⟨fun a9 U g9 mk9 q9 => q9, fun U hU hW => ⟨rfl, congrArg Array.size hU⟩⟩ rfl rfl hl.1 rfl (lv_room (Nat.le_of_ble_eq_true rfl)) dX8_field_22 ⟨Nat.zero_le _, Nat.zero_le _⟩) hS (fun q _ h => hFc q h) hFc (fun r u t H1 locs ht hvm hw hB hz1 hk1 hS => ?_)
    have hP := wKp hP hk1
    subst hw
    generalize H1 = H at hP hS ⊢
    refine lv_if_ne (tgt := 30) hx hb dX8_field_25 (by decide) (fun c_4 => ?_) (fun c_4 => ?_)
    · have hok := okF hok c_4
      have hZ := rsF hZ c_4
      refine lv_aload_n hx hb dX8_field_30 rfl (lv_at hl 0 rfl) ?_
      refine va_get (D := (dC, dI)) (ci := 7) (v := .ref (a 1)) (C := RX8) (T := TX8) (N := 35) hx hb hts iX8_field_X8 hown hK hP 0 rfl rfl 2 (by decide) (hts (.fieldLink RX8 7 "RiskHouseModel" "field" "[I") (by decide +kernel)) (fun _ h9 => h9) rfl dX8_field_31 ?_
      refine lv_iload_n hx hb dX8_field_34 rfl (lv_at hl 1 rfl) ?_
      refine lv_iload_n hx hb dX8_field_35 rfl (lv_at hl 2 rfl) ?_
      obtain ⟨h_5, hok⟩ := hok
      refine va_iast hx hb hK hP hD hS 1 0 rfl rfl h_5 dX8_field_36 (fun H locs hP hD hS => ?_)
      have hP : va_P (dC, dI) vwCl (mW cI cZ a (sA S 1 x1.toNatClampNeg x2)) H := hP
      have hD : va_D A (mW cI cZ a (sA S 1 x1.toNatClampNeg x2)) := hD
      refine lv_iconst (v := 1) hx hb dX8_field_37 (by decide) ?_
      exact W.zret (v := 1) hx hb hr rfl (fun t ht hW => ⟨⟨1, (sA S 1 x1.toNatClampNeg x2), rfl, hZ, by rw [ht]; exact hP, va_K.moved hW.alike hK, hD⟩, hS.F ht⟩) hS.2.2 dX8_field_38 hlocks
    · have hok := okT hok c_4
      have hZ := rsT hZ c_4
      exact w_X8_field_28 C0 hK hA Z S hok hZ _ _ hP hD hS _ (lv_sub hl [] rfl)
def rs_X8_field (S : St) (x1 : Int32) (x2 : Int32) : Int32 × St := (rs_X8_field_5 (sI S 2000 0) x1 x2)
def ok_X8_field (S : St) (x1 : Int32) (x2 : Int32) : Prop := ok_X8_field_5 (sI S 2000 0) x1 x2
set_option maxHeartbeats 4000000 in
set_option maxRecDepth 100000 in
theorem w_X8_field {p : Program} {l : Launch} {e : Env} {s : State} {m : MethodId} {args : Array Value} {below : List Frame} {meth : Method} {c : Code} {dC : Nat → ClassId} {dI : Nat → Nat → Nat} {cI cZ : ClassId} {a : Nat → Nat} {A : Nat → Prop} (C0 : Cx p s m args meth c RX8 cX8_field (some .boolean) 3 wsX8_field) (hK : va_K (dC, dI) vwCl (tI cI cZ) s) (hA : ∀ q, s.heap.size ≤ q → A q) (Z : Int32 × St) (S : St) (x1 : Int32) (x2 : Int32) (hok : ok_X8_field S x1 x2) (hZ : rs_X8_field S x1 x2 = Z) (H : Heap) (locs : List Loc) (hP : va_P (dC, dI) vwCl (mW cI cZ a S) H) (hD : va_D A (mW cI cZ a S)) (hS : va_S A s.heap H locs) (ls : Array Slot) (hl : lv_has ls 3 [(0, .ref (a 0)), (1, .int x1), (2, .int x2)]) : W p l e rm_X8_field s m args below meth c H locs 0 0 (MQ below (va_Qi (fun (r : Int32) (u : St) => (r, u) = Z) (mWB dC dI cI cZ a A) A) args s 0 0 A) (F0 m 0 ls []) := by
  obtain ⟨hx, hb, hr, hml, hown, hts, hlocks⟩ := id C0
  rw [ok_X8_field] at hok
  rw [rs_X8_field] at hZ
  refine lv_aload_n hx hb dX8_field_0 rfl (lv_at hl 0 rfl) ?_
  refine lv_iconst (v := 0) hx hb dX8_field_1 (by decide) ?_
  refine va_put (D := (dC, dI)) (ci := 7) (v := .int 0) (ty := .int) (C := RX8) (T := TX8) (N := 35) hx hb hts iX8_field_X8 tyX8 tyX8_ok nmX8 hown hK hP hD hS 0 rfl rfl 0 (by decide) (hts (.fieldLink RX8 88 "RiskHouseModel" "thrown" "I") (by decide +kernel)) (fun _ h9 => h9) rfl (by decide +kernel) rfl rfl (Nat.le_of_ble_eq_true rfl) dX8_field_2 (fun H locs hP hD hS => ?_)
  have hP : va_P (dC, dI) vwCl (mW cI cZ a (sI S 2000 0)) H := hP
  have hD : va_D A (mW cI cZ a (sI S 2000 0)) := hD
  exact w_X8_field_5 C0 hK hA Z (sI S 2000 0) x1 x2 hok hZ _ _ hP hD hS _ (lv_sub hl [0, 1, 2] rfl)
set_option maxHeartbeats 4000000 in
set_option maxRecDepth 100000 in
theorem c_X8_field (l : Launch) (dC : Nat → ClassId) (dI : Nat → Nat → Nat) (cI cZ : ClassId) (a : Nat → Nat) (sz : Nat) (S : St) (x1 : Int32) (x2 : Int32) (hok : ok_X8_field S x1 x2) : Met l yX8_field wsX8_field rm_X8_field (va_Pc [.ref (a 0), .int x1, .int x2] (mWP dC dI cI cZ a sz S)) (va_Qi (fun (r : Int32) (u : St) => (r, u) = rs_X8_field S x1 x2) (mWB dC dI cI cZ a (va_A (mW cI cZ a S) sz)) (va_A (mW cI cZ a S) sz)) 0 0 (va_A (mW cI cZ a S) sz) := by
  refine Met.ofW (cc := cX8_field) (maxL := 3) (ret := (some .boolean)) (by decide) rfl ?_
  intro p e s m args below meth c s₁ B hml hv
  obtain ⟨rfl, hsz, hP, hK, hD0⟩ := hv
  subst hsz
  have hD := hD0.self (sz := s.heap.size)
  have hl := lv_entry ([.ref (a 0), .int x1, .int x2]) (n := 3) (Nat.le_of_ble_eq_true rfl)
  rw [lg_entry_eq]
  generalize (lg_sl ([.ref (a 0), .int x1, .int x2]) ++ List.replicate (3 - (lg_sl ([.ref (a 0), .int x1, .int x2])).length) Slot.unset).toArray = ls at hl ⊢
  have hl : lv_has ls 3 [(0, .ref (a 0)), (1, .int x1), (2, .int x2)] := hl
  exact w_X8_field ⟨B.exec, B.bytes, B.returns, hml, findClass_of_methodNamed B.named, atoms_spec (ws := wsX8_field) B.pre, B.notSynchronized⟩ hK (fun q h => Or.inr h) _ S x1 x2 hok rfl _ _ hP hD va_S.rf ls hl
abbrev rm_X8_tape : Room := { frames := 1, cells := 0, slots := 0, locals := 22 }
theorem iX8_tape_X8 : ∀ w ∈ wsX80, w ∈ wsX8_tape := by decide +kernel
def rs_X8_tape_25 (S : St)  : Int32 × St := (0, S)
def ok_X8_tape_25 (S : St)  : Prop := True
set_option maxHeartbeats 4000000 in
set_option maxRecDepth 100000 in
theorem w_X8_tape_25 {p : Program} {l : Launch} {e : Env} {s : State} {m : MethodId} {args : Array Value} {below : List Frame} {meth : Method} {c : Code} {dC : Nat → ClassId} {dI : Nat → Nat → Nat} {cI cZ : ClassId} {a : Nat → Nat} {A : Nat → Prop} (C0 : Cx p s m args meth c RX8 cX8_tape (some .boolean) 2 wsX8_tape) (hK : va_K (dC, dI) vwCl (tI cI cZ) s) (hA : ∀ q, s.heap.size ≤ q → A q) (Z : Int32 × St) (S : St)  (hok : ok_X8_tape_25 S) (hZ : rs_X8_tape_25 S = Z) (H : Heap) (locs : List Loc) (hP : va_P (dC, dI) vwCl (mW cI cZ a S) H) (hD : va_D A (mW cI cZ a S)) (hS : va_S A s.heap H locs) (ls : Array Slot) (hl : lv_has ls 2 []) : W p l e rm_X8_tape s m args below meth c H locs 0 0 (MQ below (va_Qi (fun (r : Int32) (u : St) => (r, u) = Z) (mWB dC dI cI cZ a A) A) args s 0 0 A) (F0 m 25 ls []) := by
  obtain ⟨hx, hb, hr, hml, hown, hts, hlocks⟩ := id C0
  rw [ok_X8_tape_25] at hok
  rw [rs_X8_tape_25] at hZ
  refine lv_iconst (v := 0) hx hb dX8_tape_25 (by decide) ?_
  exact W.zret (v := 0) hx hb hr rfl (fun t ht hW => ⟨⟨0, S, rfl, hZ, by rw [ht]; exact hP, va_K.moved hW.alike hK, hD⟩, hS.F ht⟩) hS.2.2 dX8_tape_26 hlocks
def rs_X8_tape_37 (S : St)  : Int32 × St := (1, (sI S 601 ((S.1 601) + 1)))
def ok_X8_tape_37 (S : St)  : Prop := True
set_option maxHeartbeats 4000000 in
set_option maxRecDepth 100000 in
theorem w_X8_tape_37 {p : Program} {l : Launch} {e : Env} {s : State} {m : MethodId} {args : Array Value} {below : List Frame} {meth : Method} {c : Code} {dC : Nat → ClassId} {dI : Nat → Nat → Nat} {cI cZ : ClassId} {a : Nat → Nat} {A : Nat → Prop} (C0 : Cx p s m args meth c RX8 cX8_tape (some .boolean) 2 wsX8_tape) (hK : va_K (dC, dI) vwCl (tI cI cZ) s) (hA : ∀ q, s.heap.size ≤ q → A q) (Z : Int32 × St) (S : St)  (hok : ok_X8_tape_37 S) (hZ : rs_X8_tape_37 S = Z) (H : Heap) (locs : List Loc) (hP : va_P (dC, dI) vwCl (mW cI cZ a S) H) (hD : va_D A (mW cI cZ a S)) (hS : va_S A s.heap H locs) (ls : Array Slot) (hl : lv_has ls 2 [(0, .ref (a 0))]) : W p l e rm_X8_tape s m args below meth c H locs 0 0 (MQ below (va_Qi (fun (r : Int32) (u : St) => (r, u) = Z) (mWB dC dI cI cZ a A) A) args s 0 0 A) (F0 m 37 ls []) := by
  obtain ⟨hx, hb, hr, hml, hown, hts, hlocks⟩ := id C0
  rw [ok_X8_tape_37] at hok
  rw [rs_X8_tape_37] at hZ
  refine lv_aload_n hx hb dX8_tape_37 rfl (lv_at hl 0 rfl) ?_
  refine lv_dup hx hb dX8_tape_38 rfl ?_
  refine va_get (D := (dC, dI)) (ci := 7) (v := .int (S.1 601)) (C := RX8) (T := TX8) (N := 35) hx hb hts iX8_tape_X8 hown hK hP 0 rfl rfl 13 (by decide) (hts (.fieldLink RX8 113 "RiskHouseModel" "numbers" "I") (by decide +kernel)) (fun _ h9 => h9) rfl dX8_tape_39 ?_
  refine lv_iconst (v := 1) hx hb dX8_tape_42 (by decide) ?_
  refine lv_iadd hx hb dX8_tape_43 ?_
  refine va_put (D := (dC, dI)) (ci := 7) (v := .int ((S.1 601) + 1)) (ty := .int) (C := RX8) (T := TX8) (N := 35) hx hb hts iX8_tape_X8 tyX8 tyX8_ok nmX8 hown hK hP hD hS 0 rfl rfl 13 (by decide) (hts (.fieldLink RX8 113 "RiskHouseModel" "numbers" "I") (by decide +kernel)) (fun _ h9 => h9) rfl (by decide +kernel) rfl rfl (Nat.le_of_ble_eq_true rfl) dX8_tape_44 (fun H locs hP hD hS => ?_)
  have hP : va_P (dC, dI) vwCl (mW cI cZ a (sI S 601 ((S.1 601) + 1))) H := hP
  have hD : va_D A (mW cI cZ a (sI S 601 ((S.1 601) + 1))) := hD
  refine lv_iconst (v := 1) hx hb dX8_tape_47 (by decide) ?_
  exact W.zret (v := 1) hx hb hr rfl (fun t ht hW => ⟨⟨1, (sI S 601 ((S.1 601) + 1)), rfl, hZ, by rw [ht]; exact hP, va_K.moved hW.alike hK, hD⟩, hS.F ht⟩) hS.2.2 dX8_tape_48 hlocks
def rs_X8_tape_5 (S : St) (x1 : Int32) : Int32 × St := (if (rs_X8_in x1 0 999) = 0 then (rs_X8_tape_25 S) else (if (S.1 601) = 60 then (rs_X8_tape_25 S) else (rs_X8_tape_37 (sA S 16 (S.1 601).toNatClampNeg x1))))
def ok_X8_tape_5 (S : St) (x1 : Int32) : Prop := ((ok_X8_in x1 0 999) ∧ (if (rs_X8_in x1 0 999) = 0 then ok_X8_tape_25 S else (if (S.1 601) = 60 then ok_X8_tape_25 S else ((vp_in (S.1 601) 60) ∧ ok_X8_tape_37 (sA S 16 (S.1 601).toNatClampNeg x1)))))
set_option maxHeartbeats 4000000 in
set_option maxRecDepth 100000 in
theorem w_X8_tape_5 {p : Program} {l : Launch} {e : Env} {s : State} {m : MethodId} {args : Array Value} {below : List Frame} {meth : Method} {c : Code} {dC : Nat → ClassId} {dI : Nat → Nat → Nat} {cI cZ : ClassId} {a : Nat → Nat} {A : Nat → Prop} (C0 : Cx p s m args meth c RX8 cX8_tape (some .boolean) 2 wsX8_tape) (hK : va_K (dC, dI) vwCl (tI cI cZ) s) (hA : ∀ q, s.heap.size ≤ q → A q) (Z : Int32 × St) (S : St) (x1 : Int32) (hok : ok_X8_tape_5 S x1) (hZ : rs_X8_tape_5 S x1 = Z) (H : Heap) (locs : List Loc) (hP : va_P (dC, dI) vwCl (mW cI cZ a S) H) (hD : va_D A (mW cI cZ a S)) (hS : va_S A s.heap H locs) (ls : Array Slot) (hl : lv_has ls 2 [(0, .ref (a 0)), (1, .int x1)]) : W p l e rm_X8_tape s m args below meth c H locs 0 0 (MQ below (va_Qi (fun (r : Int32) (u : St) => (r, u) = Z) (mWB dC dI cI cZ a A) A) args s 0 0 A) (F0 m 5 ls []) := by
  obtain ⟨hx, hb, hr, hml, hown, hts, hlocks⟩ := id C0
  rw [ok_X8_tape_5] at hok
  rw [rs_X8_tape_5] at hZ
  refine lv_iload_n hx hb dX8_tape_5 rfl (lv_at hl 1 rfl) ?_
  refine lv_iconst (v := 0) hx hb dX8_tape_6 (by decide) ?_
  refine lv_sipush (v := 999) hx hb dX8_tape_7 (by decide) ?_
  obtain ⟨k_1, hok⟩ := hok
  have hFc := wFr hS hA
  refine va_calli (va_runS (As := [.int x1, .int 0, .int 999]) (rest := []) ⟨hx, hb, hml, hown, hts⟩ (c_X8_in l H.size x1 0 999 k_1) (va_cwS 3 hts gX8_tape_X8_in rfl rfl rfl (by decide +kernel) ⟨Nat.le_of_ble_eq_true rfl, Nat.le_of_ble_eq_true rfl⟩) ⟨fun a9 U g9 mk9 q9 => q9, fun U hU hW => ⟨rfl, congrArg Array.size hU⟩⟩ rfl rfl hl.1 rfl (lv_room (Nat.le_of_ble_eq_true rfl)) dX8_tape_10 ⟨Nat.zero_le _, Nat.zero_le _⟩) hS (fun q _ h => hFc q h) hFc (fun r u t H1 locs ht hvm hw hB hz1 hk1 hS => ?_)
  have hP := wKp hP hk1
  subst hw
  generalize H1 = H at hP hS ⊢
  refine lv_if_eq (tgt := 25) hx hb dX8_tape_13 (by decide) (fun c_2 => ?_) (fun c_2 => ?_)
  · have hok := okT hok c_2
    have hZ := rsT hZ c_2
    exact w_X8_tape_25 C0 hK hA Z S hok hZ _ _ hP hD hS _ (lv_sub hl [] rfl)
  · have hok := okF hok c_2
    have hZ := rsF hZ c_2
    refine lv_aload_n hx hb dX8_tape_16 rfl (lv_at hl 0 rfl) ?_
    refine va_get (D := (dC, dI)) (ci := 7) (v := .int (S.1 601)) (C := RX8) (T := TX8) (N := 35) hx hb hts iX8_tape_X8 hown hK hP 0 rfl rfl 13 (by decide) (hts (.fieldLink RX8 113 "RiskHouseModel" "numbers" "I") (by decide +kernel)) (fun _ h9 => h9) rfl dX8_tape_17 ?_
    refine lv_bipush (v := 60) hx hb dX8_tape_20 (by decide) ?_
    refine lv_icmp_ne (tgt := 27) hx hb dX8_tape_22 (by decide) (fun c_3 => ?_) (fun c_3 => ?_)
    · have hok := okF hok c_3
      have hZ := rsF hZ c_3
      refine lv_aload_n hx hb dX8_tape_27 rfl (lv_at hl 0 rfl) ?_
      refine va_get (D := (dC, dI)) (ci := 7) (v := .ref (a 11)) (C := RX8) (T := TX8) (N := 35) hx hb hts iX8_tape_X8 hown hK hP 0 rfl rfl 15 (by decide) (hts (.fieldLink RX8 41 "RiskHouseModel" "tape" "[I") (by decide +kernel)) (fun _ h9 => h9) rfl dX8_tape_28 ?_
      refine lv_aload_n hx hb dX8_tape_31 rfl (lv_at hl 0 rfl) ?_
      refine va_get (D := (dC, dI)) (ci := 7) (v := .int (S.1 601)) (C := RX8) (T := TX8) (N := 35) hx hb hts iX8_tape_X8 hown hK hP 0 rfl rfl 13 (by decide) (hts (.fieldLink RX8 113 "RiskHouseModel" "numbers" "I") (by decide +kernel)) (fun _ h9 => h9) rfl dX8_tape_32 ?_
      refine lv_iload_n hx hb dX8_tape_35 rfl (lv_at hl 1 rfl) ?_
      obtain ⟨h_4, hok⟩ := hok
      refine va_iast hx hb hK hP hD hS 11 0 rfl rfl h_4 dX8_tape_36 (fun H locs hP hD hS => ?_)
      have hP : va_P (dC, dI) vwCl (mW cI cZ a (sA S 16 (S.1 601).toNatClampNeg x1)) H := hP
      have hD : va_D A (mW cI cZ a (sA S 16 (S.1 601).toNatClampNeg x1)) := hD
      exact w_X8_tape_37 C0 hK hA Z (sA S 16 (S.1 601).toNatClampNeg x1) hok hZ _ _ hP hD hS _ (lv_sub hl [0] rfl)
    · have hok := okT hok c_3
      have hZ := rsT hZ c_3
      exact w_X8_tape_25 C0 hK hA Z S hok hZ _ _ hP hD hS _ (lv_sub hl [] rfl)
def rs_X8_tape (S : St) (x1 : Int32) : Int32 × St := (rs_X8_tape_5 (sI S 2000 0) x1)
def ok_X8_tape (S : St) (x1 : Int32) : Prop := ok_X8_tape_5 (sI S 2000 0) x1
set_option maxHeartbeats 4000000 in
set_option maxRecDepth 100000 in
theorem w_X8_tape {p : Program} {l : Launch} {e : Env} {s : State} {m : MethodId} {args : Array Value} {below : List Frame} {meth : Method} {c : Code} {dC : Nat → ClassId} {dI : Nat → Nat → Nat} {cI cZ : ClassId} {a : Nat → Nat} {A : Nat → Prop} (C0 : Cx p s m args meth c RX8 cX8_tape (some .boolean) 2 wsX8_tape) (hK : va_K (dC, dI) vwCl (tI cI cZ) s) (hA : ∀ q, s.heap.size ≤ q → A q) (Z : Int32 × St) (S : St) (x1 : Int32) (hok : ok_X8_tape S x1) (hZ : rs_X8_tape S x1 = Z) (H : Heap) (locs : List Loc) (hP : va_P (dC, dI) vwCl (mW cI cZ a S) H) (hD : va_D A (mW cI cZ a S)) (hS : va_S A s.heap H locs) (ls : Array Slot) (hl : lv_has ls 2 [(0, .ref (a 0)), (1, .int x1)]) : W p l e rm_X8_tape s m args below meth c H locs 0 0 (MQ below (va_Qi (fun (r : Int32) (u : St) => (r, u) = Z) (mWB dC dI cI cZ a A) A) args s 0 0 A) (F0 m 0 ls []) := by
  obtain ⟨hx, hb, hr, hml, hown, hts, hlocks⟩ := id C0
  rw [ok_X8_tape] at hok
  rw [rs_X8_tape] at hZ
  refine lv_aload_n hx hb dX8_tape_0 rfl (lv_at hl 0 rfl) ?_
  refine lv_iconst (v := 0) hx hb dX8_tape_1 (by decide) ?_
  refine va_put (D := (dC, dI)) (ci := 7) (v := .int 0) (ty := .int) (C := RX8) (T := TX8) (N := 35) hx hb hts iX8_tape_X8 tyX8 tyX8_ok nmX8 hown hK hP hD hS 0 rfl rfl 0 (by decide) (hts (.fieldLink RX8 88 "RiskHouseModel" "thrown" "I") (by decide +kernel)) (fun _ h9 => h9) rfl (by decide +kernel) rfl rfl (Nat.le_of_ble_eq_true rfl) dX8_tape_2 (fun H locs hP hD hS => ?_)
  have hP : va_P (dC, dI) vwCl (mW cI cZ a (sI S 2000 0)) H := hP
  have hD : va_D A (mW cI cZ a (sI S 2000 0)) := hD
  exact w_X8_tape_5 C0 hK hA Z (sI S 2000 0) x1 hok hZ _ _ hP hD hS _ (lv_sub hl [0, 1] rfl)
set_option maxHeartbeats 4000000 in
set_option maxRecDepth 100000 in
theorem c_X8_tape (l : Launch) (dC : Nat → ClassId) (dI : Nat → Nat → Nat) (cI cZ : ClassId) (a : Nat → Nat) (sz : Nat) (S : St) (x1 : Int32) (hok : ok_X8_tape S x1) : Met l yX8_tape wsX8_tape rm_X8_tape (va_Pc [.ref (a 0), .int x1] (mWP dC dI cI cZ a sz S)) (va_Qi (fun (r : Int32) (u : St) => (r, u) = rs_X8_tape S x1) (mWB dC dI cI cZ a (va_A (mW cI cZ a S) sz)) (va_A (mW cI cZ a S) sz)) 0 0 (va_A (mW cI cZ a S) sz) := by
  refine Met.ofW (cc := cX8_tape) (maxL := 2) (ret := (some .boolean)) (by decide) rfl ?_
  intro p e s m args below meth c s₁ B hml hv
  obtain ⟨rfl, hsz, hP, hK, hD0⟩ := hv
  subst hsz
  have hD := hD0.self (sz := s.heap.size)
  have hl := lv_entry ([.ref (a 0), .int x1]) (n := 2) (Nat.le_of_ble_eq_true rfl)
  rw [lg_entry_eq]
  generalize (lg_sl ([.ref (a 0), .int x1]) ++ List.replicate (2 - (lg_sl ([.ref (a 0), .int x1])).length) Slot.unset).toArray = ls at hl ⊢
  have hl : lv_has ls 2 [(0, .ref (a 0)), (1, .int x1)] := hl
  exact w_X8_tape ⟨B.exec, B.bytes, B.returns, hml, findClass_of_methodNamed B.named, atoms_spec (ws := wsX8_tape) B.pre, B.notSynchronized⟩ hK (fun q h => Or.inr h) _ S x1 hok rfl _ _ hP hD va_S.rf ls hl
abbrev rm_X8_share : Room := { frames := 1, cells := 0, slots := 0, locals := 22 }
theorem iX8_share_X8 : ∀ w ∈ wsX80, w ∈ wsX8_share := by decide +kernel
def rs_X8_share_25 (S : St)  : Int32 × St := (0, S)
def ok_X8_share_25 (S : St)  : Prop := True
set_option maxHeartbeats 4000000 in
set_option maxRecDepth 100000 in
theorem w_X8_share_25 {p : Program} {l : Launch} {e : Env} {s : State} {m : MethodId} {args : Array Value} {below : List Frame} {meth : Method} {c : Code} {dC : Nat → ClassId} {dI : Nat → Nat → Nat} {cI cZ : ClassId} {a : Nat → Nat} {A : Nat → Prop} (C0 : Cx p s m args meth c RX8 cX8_share (some .boolean) 3 wsX8_share) (hK : va_K (dC, dI) vwCl (tI cI cZ) s) (hA : ∀ q, s.heap.size ≤ q → A q) (Z : Int32 × St) (S : St)  (hok : ok_X8_share_25 S) (hZ : rs_X8_share_25 S = Z) (H : Heap) (locs : List Loc) (hP : va_P (dC, dI) vwCl (mW cI cZ a S) H) (hD : va_D A (mW cI cZ a S)) (hS : va_S A s.heap H locs) (ls : Array Slot) (hl : lv_has ls 3 []) : W p l e rm_X8_share s m args below meth c H locs 0 0 (MQ below (va_Qi (fun (r : Int32) (u : St) => (r, u) = Z) (mWB dC dI cI cZ a A) A) args s 0 0 A) (F0 m 25 ls []) := by
  obtain ⟨hx, hb, hr, hml, hown, hts, hlocks⟩ := id C0
  rw [ok_X8_share_25] at hok
  rw [rs_X8_share_25] at hZ
  refine lv_iconst (v := 0) hx hb dX8_share_25 (by decide) ?_
  exact W.zret (v := 0) hx hb hr rfl (fun t ht hW => ⟨⟨0, S, rfl, hZ, by rw [ht]; exact hP, va_K.moved hW.alike hK, hD⟩, hS.F ht⟩) hS.2.2 dX8_share_26 hlocks
def rs_X8_share_32 (S : St) (x2 : Int32) : Int32 × St := (1, (sI S 604 x2))
def ok_X8_share_32 (S : St) (x2 : Int32) : Prop := True
set_option maxHeartbeats 4000000 in
set_option maxRecDepth 100000 in
theorem w_X8_share_32 {p : Program} {l : Launch} {e : Env} {s : State} {m : MethodId} {args : Array Value} {below : List Frame} {meth : Method} {c : Code} {dC : Nat → ClassId} {dI : Nat → Nat → Nat} {cI cZ : ClassId} {a : Nat → Nat} {A : Nat → Prop} (C0 : Cx p s m args meth c RX8 cX8_share (some .boolean) 3 wsX8_share) (hK : va_K (dC, dI) vwCl (tI cI cZ) s) (hA : ∀ q, s.heap.size ≤ q → A q) (Z : Int32 × St) (S : St) (x2 : Int32) (hok : ok_X8_share_32 S x2) (hZ : rs_X8_share_32 S x2 = Z) (H : Heap) (locs : List Loc) (hP : va_P (dC, dI) vwCl (mW cI cZ a S) H) (hD : va_D A (mW cI cZ a S)) (hS : va_S A s.heap H locs) (ls : Array Slot) (hl : lv_has ls 3 [(0, .ref (a 0)), (2, .int x2)]) : W p l e rm_X8_share s m args below meth c H locs 0 0 (MQ below (va_Qi (fun (r : Int32) (u : St) => (r, u) = Z) (mWB dC dI cI cZ a A) A) args s 0 0 A) (F0 m 32 ls []) := by
  obtain ⟨hx, hb, hr, hml, hown, hts, hlocks⟩ := id C0
  rw [ok_X8_share_32] at hok
  rw [rs_X8_share_32] at hZ
  refine lv_aload_n hx hb dX8_share_32 rfl (lv_at hl 0 rfl) ?_
  refine lv_iload_n hx hb dX8_share_33 rfl (lv_at hl 1 rfl) ?_
  refine va_put (D := (dC, dI)) (ci := 7) (v := .int x2) (ty := .int) (C := RX8) (T := TX8) (N := 35) hx hb hts iX8_share_X8 tyX8 tyX8_ok nmX8 hown hK hP hD hS 0 rfl rfl 17 (by decide) (hts (.fieldLink RX8 44 "RiskHouseModel" "down" "I") (by decide +kernel)) (fun _ h9 => h9) rfl (by decide +kernel) rfl rfl (Nat.le_of_ble_eq_true rfl) dX8_share_34 (fun H locs hP hD hS => ?_)
  have hP : va_P (dC, dI) vwCl (mW cI cZ a (sI S 604 x2)) H := hP
  have hD : va_D A (mW cI cZ a (sI S 604 x2)) := hD
  refine lv_iconst (v := 1) hx hb dX8_share_37 (by decide) ?_
  exact W.zret (v := 1) hx hb hr rfl (fun t ht hW => ⟨⟨1, (sI S 604 x2), rfl, hZ, by rw [ht]; exact hP, va_K.moved hW.alike hK, hD⟩, hS.F ht⟩) hS.2.2 dX8_share_38 hlocks
def rs_X8_share_5 (S : St) (x1 : Int32) (x2 : Int32) : Int32 × St := (if (rs_X8_in x2 1 1000) = 0 then (rs_X8_share_25 S) else (if (rs_X8_in x1 0 x2) = 0 then (rs_X8_share_25 S) else (rs_X8_share_32 (sI S 603 x1) x2)))
def ok_X8_share_5 (S : St) (x1 : Int32) (x2 : Int32) : Prop := ((ok_X8_in x2 1 1000) ∧ (if (rs_X8_in x2 1 1000) = 0 then ok_X8_share_25 S else ((ok_X8_in x1 0 x2) ∧ (if (rs_X8_in x1 0 x2) = 0 then ok_X8_share_25 S else ok_X8_share_32 (sI S 603 x1) x2))))
set_option maxHeartbeats 4000000 in
set_option maxRecDepth 100000 in
theorem w_X8_share_5 {p : Program} {l : Launch} {e : Env} {s : State} {m : MethodId} {args : Array Value} {below : List Frame} {meth : Method} {c : Code} {dC : Nat → ClassId} {dI : Nat → Nat → Nat} {cI cZ : ClassId} {a : Nat → Nat} {A : Nat → Prop} (C0 : Cx p s m args meth c RX8 cX8_share (some .boolean) 3 wsX8_share) (hK : va_K (dC, dI) vwCl (tI cI cZ) s) (hA : ∀ q, s.heap.size ≤ q → A q) (Z : Int32 × St) (S : St) (x1 : Int32) (x2 : Int32) (hok : ok_X8_share_5 S x1 x2) (hZ : rs_X8_share_5 S x1 x2 = Z) (H : Heap) (locs : List Loc) (hP : va_P (dC, dI) vwCl (mW cI cZ a S) H) (hD : va_D A (mW cI cZ a S)) (hS : va_S A s.heap H locs) (ls : Array Slot) (hl : lv_has ls 3 [(0, .ref (a 0)), (1, .int x1), (2, .int x2)]) : W p l e rm_X8_share s m args below meth c H locs 0 0 (MQ below (va_Qi (fun (r : Int32) (u : St) => (r, u) = Z) (mWB dC dI cI cZ a A) A) args s 0 0 A) (F0 m 5 ls []) := by
  obtain ⟨hx, hb, hr, hml, hown, hts, hlocks⟩ := id C0
  rw [ok_X8_share_5] at hok
  rw [rs_X8_share_5] at hZ
  refine lv_iload_n hx hb dX8_share_5 rfl (lv_at hl 2 rfl) ?_
  refine lv_iconst (v := 1) hx hb dX8_share_6 (by decide) ?_
  refine lv_sipush (v := 1000) hx hb dX8_share_7 (by decide) ?_
  obtain ⟨k_1, hok⟩ := hok
  have hFc := wFr hS hA
  refine va_calli (va_runS (As := [.int x2, .int 1, .int 1000]) (rest := []) ⟨hx, hb, hml, hown, hts⟩ (c_X8_in l H.size x2 1 1000 k_1) (va_cwS 3 hts gX8_share_X8_in rfl rfl rfl (by decide +kernel) ⟨Nat.le_of_ble_eq_true rfl, Nat.le_of_ble_eq_true rfl⟩) ⟨fun a9 U g9 mk9 q9 => q9, fun U hU hW => ⟨rfl, congrArg Array.size hU⟩⟩ rfl rfl hl.1 rfl (lv_room (Nat.le_of_ble_eq_true rfl)) dX8_share_10 ⟨Nat.zero_le _, Nat.zero_le _⟩) hS (fun q _ h => hFc q h) hFc (fun r u t H1 locs ht hvm hw hB hz1 hk1 hS => ?_)
  have hP := wKp hP hk1
  subst hw
  generalize H1 = H at hP hS ⊢
  refine lv_if_eq (tgt := 25) hx hb dX8_share_13 (by decide) (fun c_2 => ?_) (fun c_2 => ?_)
  · have hok := okT hok c_2
    have hZ := rsT hZ c_2
    exact w_X8_share_25 C0 hK hA Z S hok hZ _ _ hP hD hS _ (lv_sub hl [] rfl)
  · have hok := okF hok c_2
    have hZ := rsF hZ c_2
    refine lv_iload_n hx hb dX8_share_16 rfl (lv_at hl 1 rfl) ?_
    refine lv_iconst (v := 0) hx hb dX8_share_17 (by decide) ?_
    refine lv_iload_n hx hb dX8_share_18 rfl (lv_at hl 2 rfl) ?_
    obtain ⟨k_3, hok⟩ := hok
    have hFc := wFr hS hA
    refine va_calli (va_runS (As := [.int x1, .int 0, .int x2]) (rest := []) ⟨hx, hb, hml, hown, hts⟩ (c_X8_in l H.size x1 0 x2 k_3) (va_cwS 3 hts gX8_share_X8_in rfl rfl rfl (by decide +kernel) ⟨Nat.le_of_ble_eq_true rfl, Nat.le_of_ble_eq_true rfl⟩) ⟨fun a9 U g9 mk9 q9 => q9, fun U hU hW => ⟨rfl, congrArg Array.size hU⟩⟩ rfl rfl hl.1 rfl (lv_room (Nat.le_of_ble_eq_true rfl)) dX8_share_19 ⟨Nat.zero_le _, Nat.zero_le _⟩) hS (fun q _ h => hFc q h) hFc (fun r u t H1 locs ht hvm hw hB hz1 hk1 hS => ?_)
    have hP := wKp hP hk1
    subst hw
    generalize H1 = H at hP hS ⊢
    refine lv_if_ne (tgt := 27) hx hb dX8_share_22 (by decide) (fun c_4 => ?_) (fun c_4 => ?_)
    · have hok := okF hok c_4
      have hZ := rsF hZ c_4
      refine lv_aload_n hx hb dX8_share_27 rfl (lv_at hl 0 rfl) ?_
      refine lv_iload_n hx hb dX8_share_28 rfl (lv_at hl 1 rfl) ?_
      refine va_put (D := (dC, dI)) (ci := 7) (v := .int x1) (ty := .int) (C := RX8) (T := TX8) (N := 35) hx hb hts iX8_share_X8 tyX8 tyX8_ok nmX8 hown hK hP hD hS 0 rfl rfl 16 (by decide) (hts (.fieldLink RX8 116 "RiskHouseModel" "up" "I") (by decide +kernel)) (fun _ h9 => h9) rfl (by decide +kernel) rfl rfl (Nat.le_of_ble_eq_true rfl) dX8_share_29 (fun H locs hP hD hS => ?_)
      have hP : va_P (dC, dI) vwCl (mW cI cZ a (sI S 603 x1)) H := hP
      have hD : va_D A (mW cI cZ a (sI S 603 x1)) := hD
      exact w_X8_share_32 C0 hK hA Z (sI S 603 x1) x2 hok hZ _ _ hP hD hS _ (lv_sub hl [0, 2] rfl)
    · have hok := okT hok c_4
      have hZ := rsT hZ c_4
      exact w_X8_share_25 C0 hK hA Z S hok hZ _ _ hP hD hS _ (lv_sub hl [] rfl)
def rs_X8_share (S : St) (x1 : Int32) (x2 : Int32) : Int32 × St := (rs_X8_share_5 (sI S 2000 0) x1 x2)
def ok_X8_share (S : St) (x1 : Int32) (x2 : Int32) : Prop := ok_X8_share_5 (sI S 2000 0) x1 x2
set_option maxHeartbeats 4000000 in
set_option maxRecDepth 100000 in
theorem w_X8_share {p : Program} {l : Launch} {e : Env} {s : State} {m : MethodId} {args : Array Value} {below : List Frame} {meth : Method} {c : Code} {dC : Nat → ClassId} {dI : Nat → Nat → Nat} {cI cZ : ClassId} {a : Nat → Nat} {A : Nat → Prop} (C0 : Cx p s m args meth c RX8 cX8_share (some .boolean) 3 wsX8_share) (hK : va_K (dC, dI) vwCl (tI cI cZ) s) (hA : ∀ q, s.heap.size ≤ q → A q) (Z : Int32 × St) (S : St) (x1 : Int32) (x2 : Int32) (hok : ok_X8_share S x1 x2) (hZ : rs_X8_share S x1 x2 = Z) (H : Heap) (locs : List Loc) (hP : va_P (dC, dI) vwCl (mW cI cZ a S) H) (hD : va_D A (mW cI cZ a S)) (hS : va_S A s.heap H locs) (ls : Array Slot) (hl : lv_has ls 3 [(0, .ref (a 0)), (1, .int x1), (2, .int x2)]) : W p l e rm_X8_share s m args below meth c H locs 0 0 (MQ below (va_Qi (fun (r : Int32) (u : St) => (r, u) = Z) (mWB dC dI cI cZ a A) A) args s 0 0 A) (F0 m 0 ls []) := by
  obtain ⟨hx, hb, hr, hml, hown, hts, hlocks⟩ := id C0
  rw [ok_X8_share] at hok
  rw [rs_X8_share] at hZ
  refine lv_aload_n hx hb dX8_share_0 rfl (lv_at hl 0 rfl) ?_
  refine lv_iconst (v := 0) hx hb dX8_share_1 (by decide) ?_
  refine va_put (D := (dC, dI)) (ci := 7) (v := .int 0) (ty := .int) (C := RX8) (T := TX8) (N := 35) hx hb hts iX8_share_X8 tyX8 tyX8_ok nmX8 hown hK hP hD hS 0 rfl rfl 0 (by decide) (hts (.fieldLink RX8 88 "RiskHouseModel" "thrown" "I") (by decide +kernel)) (fun _ h9 => h9) rfl (by decide +kernel) rfl rfl (Nat.le_of_ble_eq_true rfl) dX8_share_2 (fun H locs hP hD hS => ?_)
  have hP : va_P (dC, dI) vwCl (mW cI cZ a (sI S 2000 0)) H := hP
  have hD : va_D A (mW cI cZ a (sI S 2000 0)) := hD
  exact w_X8_share_5 C0 hK hA Z (sI S 2000 0) x1 x2 hok hZ _ _ hP hD hS _ (lv_sub hl [0, 1, 2] rfl)
set_option maxHeartbeats 4000000 in
set_option maxRecDepth 100000 in
theorem c_X8_share (l : Launch) (dC : Nat → ClassId) (dI : Nat → Nat → Nat) (cI cZ : ClassId) (a : Nat → Nat) (sz : Nat) (S : St) (x1 : Int32) (x2 : Int32) (hok : ok_X8_share S x1 x2) : Met l yX8_share wsX8_share rm_X8_share (va_Pc [.ref (a 0), .int x1, .int x2] (mWP dC dI cI cZ a sz S)) (va_Qi (fun (r : Int32) (u : St) => (r, u) = rs_X8_share S x1 x2) (mWB dC dI cI cZ a (va_A (mW cI cZ a S) sz)) (va_A (mW cI cZ a S) sz)) 0 0 (va_A (mW cI cZ a S) sz) := by
  refine Met.ofW (cc := cX8_share) (maxL := 3) (ret := (some .boolean)) (by decide) rfl ?_
  intro p e s m args below meth c s₁ B hml hv
  obtain ⟨rfl, hsz, hP, hK, hD0⟩ := hv
  subst hsz
  have hD := hD0.self (sz := s.heap.size)
  have hl := lv_entry ([.ref (a 0), .int x1, .int x2]) (n := 3) (Nat.le_of_ble_eq_true rfl)
  rw [lg_entry_eq]
  generalize (lg_sl ([.ref (a 0), .int x1, .int x2]) ++ List.replicate (3 - (lg_sl ([.ref (a 0), .int x1, .int x2])).length) Slot.unset).toArray = ls at hl ⊢
  have hl : lv_has ls 3 [(0, .ref (a 0)), (1, .int x1), (2, .int x2)] := hl
  exact w_X8_share ⟨B.exec, B.bytes, B.returns, hml, findClass_of_methodNamed B.named, atoms_spec (ws := wsX8_share) B.pre, B.notSynchronized⟩ hK (fun q h => Or.inr h) _ S x1 x2 hok rfl _ _ hP hD va_S.rf ls hl
abbrev rm_X8_cap : Room := { frames := 1, cells := 0, slots := 0, locals := 22 }
theorem iX8_cap_X8 : ∀ w ∈ wsX80, w ∈ wsX8_cap := by decide +kernel
def rs_X8_cap_22 (S : St)  : Int32 × St := (0, S)
def ok_X8_cap_22 (S : St)  : Prop := True
set_option maxHeartbeats 4000000 in
set_option maxRecDepth 100000 in
theorem w_X8_cap_22 {p : Program} {l : Launch} {e : Env} {s : State} {m : MethodId} {args : Array Value} {below : List Frame} {meth : Method} {c : Code} {dC : Nat → ClassId} {dI : Nat → Nat → Nat} {cI cZ : ClassId} {a : Nat → Nat} {A : Nat → Prop} (C0 : Cx p s m args meth c RX8 cX8_cap (some .boolean) 3 wsX8_cap) (hK : va_K (dC, dI) vwCl (tI cI cZ) s) (hA : ∀ q, s.heap.size ≤ q → A q) (Z : Int32 × St) (S : St)  (hok : ok_X8_cap_22 S) (hZ : rs_X8_cap_22 S = Z) (H : Heap) (locs : List Loc) (hP : va_P (dC, dI) vwCl (mW cI cZ a S) H) (hD : va_D A (mW cI cZ a S)) (hS : va_S A s.heap H locs) (ls : Array Slot) (hl : lv_has ls 3 []) : W p l e rm_X8_cap s m args below meth c H locs 0 0 (MQ below (va_Qi (fun (r : Int32) (u : St) => (r, u) = Z) (mWB dC dI cI cZ a A) A) args s 0 0 A) (F0 m 22 ls []) := by
  obtain ⟨hx, hb, hr, hml, hown, hts, hlocks⟩ := id C0
  rw [ok_X8_cap_22] at hok
  rw [rs_X8_cap_22] at hZ
  refine lv_iconst (v := 0) hx hb dX8_cap_22 (by decide) ?_
  exact W.zret (v := 0) hx hb hr rfl (fun t ht hW => ⟨⟨0, S, rfl, hZ, by rw [ht]; exact hP, va_K.moved hW.alike hK, hD⟩, hS.F ht⟩) hS.2.2 dX8_cap_23 hlocks
def rs_X8_cap_5 (S : St) (x1 : Int32) (x2 : Int32) : Int32 × St := (if (rs_X8_isFour x1) = 0 then (rs_X8_cap_22 S) else (if (rs_X8_in x2 0 20) = 0 then (rs_X8_cap_22 S) else (1, (sA S 2 x1.toNatClampNeg x2))))
def ok_X8_cap_5 (S : St) (x1 : Int32) (x2 : Int32) : Prop := ((ok_X8_isFour x1) ∧ (if (rs_X8_isFour x1) = 0 then ok_X8_cap_22 S else ((ok_X8_in x2 0 20) ∧ (if (rs_X8_in x2 0 20) = 0 then ok_X8_cap_22 S else ((vp_in x1 4) ∧ True)))))
set_option maxHeartbeats 4000000 in
set_option maxRecDepth 100000 in
theorem w_X8_cap_5 {p : Program} {l : Launch} {e : Env} {s : State} {m : MethodId} {args : Array Value} {below : List Frame} {meth : Method} {c : Code} {dC : Nat → ClassId} {dI : Nat → Nat → Nat} {cI cZ : ClassId} {a : Nat → Nat} {A : Nat → Prop} (C0 : Cx p s m args meth c RX8 cX8_cap (some .boolean) 3 wsX8_cap) (hK : va_K (dC, dI) vwCl (tI cI cZ) s) (hA : ∀ q, s.heap.size ≤ q → A q) (Z : Int32 × St) (S : St) (x1 : Int32) (x2 : Int32) (hok : ok_X8_cap_5 S x1 x2) (hZ : rs_X8_cap_5 S x1 x2 = Z) (H : Heap) (locs : List Loc) (hP : va_P (dC, dI) vwCl (mW cI cZ a S) H) (hD : va_D A (mW cI cZ a S)) (hS : va_S A s.heap H locs) (ls : Array Slot) (hl : lv_has ls 3 [(0, .ref (a 0)), (1, .int x1), (2, .int x2)]) : W p l e rm_X8_cap s m args below meth c H locs 0 0 (MQ below (va_Qi (fun (r : Int32) (u : St) => (r, u) = Z) (mWB dC dI cI cZ a A) A) args s 0 0 A) (F0 m 5 ls []) := by
  obtain ⟨hx, hb, hr, hml, hown, hts, hlocks⟩ := id C0
  rw [ok_X8_cap_5] at hok
  rw [rs_X8_cap_5] at hZ
  refine lv_iload_n hx hb dX8_cap_5 rfl (lv_at hl 1 rfl) ?_
  obtain ⟨k_1, hok⟩ := hok
  have hFc := wFr hS hA
  refine va_calli (va_runS (As := [.int x1]) (rest := []) ⟨hx, hb, hml, hown, hts⟩ (c_X8_isFour l H.size x1 k_1) (va_cwS 1 hts gX8_cap_X8_isFour rfl rfl rfl (by decide +kernel) ⟨Nat.le_of_ble_eq_true rfl, Nat.le_of_ble_eq_true rfl⟩) ⟨fun a9 U g9 mk9 q9 => q9, fun U hU hW => ⟨rfl, congrArg Array.size hU⟩⟩ rfl rfl hl.1 rfl (lv_room (Nat.le_of_ble_eq_true rfl)) dX8_cap_6 ⟨Nat.zero_le _, Nat.zero_le _⟩) hS (fun q _ h => hFc q h) hFc (fun r u t H1 locs ht hvm hw hB hz1 hk1 hS => ?_)
  have hP := wKp hP hk1
  subst hw
  generalize H1 = H at hP hS ⊢
  refine lv_if_eq (tgt := 22) hx hb dX8_cap_9 (by decide) (fun c_2 => ?_) (fun c_2 => ?_)
  · have hok := okT hok c_2
    have hZ := rsT hZ c_2
    exact w_X8_cap_22 C0 hK hA Z S hok hZ _ _ hP hD hS _ (lv_sub hl [] rfl)
  · have hok := okF hok c_2
    have hZ := rsF hZ c_2
    refine lv_iload_n hx hb dX8_cap_12 rfl (lv_at hl 2 rfl) ?_
    refine lv_iconst (v := 0) hx hb dX8_cap_13 (by decide) ?_
    refine lv_bipush (v := 20) hx hb dX8_cap_14 (by decide) ?_
    obtain ⟨k_3, hok⟩ := hok
    have hFc := wFr hS hA
    refine va_calli (va_runS (As := [.int x2, .int 0, .int 20]) (rest := []) ⟨hx, hb, hml, hown, hts⟩ (c_X8_in l H.size x2 0 20 k_3) (va_cwS 3 hts gX8_cap_X8_in rfl rfl rfl (by decide +kernel) ⟨Nat.le_of_ble_eq_true rfl, Nat.le_of_ble_eq_true rfl⟩) ⟨fun a9 U g9 mk9 q9 => q9, fun U hU hW => ⟨rfl, congrArg Array.size hU⟩⟩ rfl rfl hl.1 rfl (lv_room (Nat.le_of_ble_eq_true rfl)) dX8_cap_16 ⟨Nat.zero_le _, Nat.zero_le _⟩) hS (fun q _ h => hFc q h) hFc (fun r u t H1 locs ht hvm hw hB hz1 hk1 hS => ?_)
    have hP := wKp hP hk1
    subst hw
    generalize H1 = H at hP hS ⊢
    refine lv_if_ne (tgt := 24) hx hb dX8_cap_19 (by decide) (fun c_4 => ?_) (fun c_4 => ?_)
    · have hok := okF hok c_4
      have hZ := rsF hZ c_4
      refine lv_aload_n hx hb dX8_cap_24 rfl (lv_at hl 0 rfl) ?_
      refine va_get (D := (dC, dI)) (ci := 7) (v := .ref (a 12)) (C := RX8) (T := TX8) (N := 35) hx hb hts iX8_cap_X8 hown hK hP 0 rfl rfl 18 (by decide) (hts (.fieldLink RX8 48 "RiskHouseModel" "caps" "[I") (by decide +kernel)) (fun _ h9 => h9) rfl dX8_cap_25 ?_
      refine lv_iload_n hx hb dX8_cap_28 rfl (lv_at hl 1 rfl) ?_
      refine lv_iload_n hx hb dX8_cap_29 rfl (lv_at hl 2 rfl) ?_
      obtain ⟨h_5, hok⟩ := hok
      refine va_iast hx hb hK hP hD hS 12 0 rfl rfl h_5 dX8_cap_30 (fun H locs hP hD hS => ?_)
      have hP : va_P (dC, dI) vwCl (mW cI cZ a (sA S 2 x1.toNatClampNeg x2)) H := hP
      have hD : va_D A (mW cI cZ a (sA S 2 x1.toNatClampNeg x2)) := hD
      refine lv_iconst (v := 1) hx hb dX8_cap_31 (by decide) ?_
      exact W.zret (v := 1) hx hb hr rfl (fun t ht hW => ⟨⟨1, (sA S 2 x1.toNatClampNeg x2), rfl, hZ, by rw [ht]; exact hP, va_K.moved hW.alike hK, hD⟩, hS.F ht⟩) hS.2.2 dX8_cap_32 hlocks
    · have hok := okT hok c_4
      have hZ := rsT hZ c_4
      exact w_X8_cap_22 C0 hK hA Z S hok hZ _ _ hP hD hS _ (lv_sub hl [] rfl)
def rs_X8_cap (S : St) (x1 : Int32) (x2 : Int32) : Int32 × St := (rs_X8_cap_5 (sI S 2000 0) x1 x2)
def ok_X8_cap (S : St) (x1 : Int32) (x2 : Int32) : Prop := ok_X8_cap_5 (sI S 2000 0) x1 x2
set_option maxHeartbeats 4000000 in
set_option maxRecDepth 100000 in
theorem w_X8_cap {p : Program} {l : Launch} {e : Env} {s : State} {m : MethodId} {args : Array Value} {below : List Frame} {meth : Method} {c : Code} {dC : Nat → ClassId} {dI : Nat → Nat → Nat} {cI cZ : ClassId} {a : Nat → Nat} {A : Nat → Prop} (C0 : Cx p s m args meth c RX8 cX8_cap (some .boolean) 3 wsX8_cap) (hK : va_K (dC, dI) vwCl (tI cI cZ) s) (hA : ∀ q, s.heap.size ≤ q → A q) (Z : Int32 × St) (S : St) (x1 : Int32) (x2 : Int32) (hok : ok_X8_cap S x1 x2) (hZ : rs_X8_cap S x1 x2 = Z) (H : Heap) (locs : List Loc) (hP : va_P (dC, dI) vwCl (mW cI cZ a S) H) (hD : va_D A (mW cI cZ a S)) (hS : va_S A s.heap H locs) (ls : Array Slot) (hl : lv_has ls 3 [(0, .ref (a 0)), (1, .int x1), (2, .int x2)]) : W p l e rm_X8_cap s m args below meth c H locs 0 0 (MQ below (va_Qi (fun (r : Int32) (u : St) => (r, u) = Z) (mWB dC dI cI cZ a A) A) args s 0 0 A) (F0 m 0 ls []) := by
  obtain ⟨hx, hb, hr, hml, hown, hts, hlocks⟩ := id C0
  rw [ok_X8_cap] at hok
  rw [rs_X8_cap] at hZ
  refine lv_aload_n hx hb dX8_cap_0 rfl (lv_at hl 0 rfl) ?_
  refine lv_iconst (v := 0) hx hb dX8_cap_1 (by decide) ?_
  refine va_put (D := (dC, dI)) (ci := 7) (v := .int 0) (ty := .int) (C := RX8) (T := TX8) (N := 35) hx hb hts iX8_cap_X8 tyX8 tyX8_ok nmX8 hown hK hP hD hS 0 rfl rfl 0 (by decide) (hts (.fieldLink RX8 88 "RiskHouseModel" "thrown" "I") (by decide +kernel)) (fun _ h9 => h9) rfl (by decide +kernel) rfl rfl (Nat.le_of_ble_eq_true rfl) dX8_cap_2 (fun H locs hP hD hS => ?_)
  have hP : va_P (dC, dI) vwCl (mW cI cZ a (sI S 2000 0)) H := hP
  have hD : va_D A (mW cI cZ a (sI S 2000 0)) := hD
  exact w_X8_cap_5 C0 hK hA Z (sI S 2000 0) x1 x2 hok hZ _ _ hP hD hS _ (lv_sub hl [0, 1, 2] rfl)
set_option maxHeartbeats 4000000 in
set_option maxRecDepth 100000 in
theorem c_X8_cap (l : Launch) (dC : Nat → ClassId) (dI : Nat → Nat → Nat) (cI cZ : ClassId) (a : Nat → Nat) (sz : Nat) (S : St) (x1 : Int32) (x2 : Int32) (hok : ok_X8_cap S x1 x2) : Met l yX8_cap wsX8_cap rm_X8_cap (va_Pc [.ref (a 0), .int x1, .int x2] (mWP dC dI cI cZ a sz S)) (va_Qi (fun (r : Int32) (u : St) => (r, u) = rs_X8_cap S x1 x2) (mWB dC dI cI cZ a (va_A (mW cI cZ a S) sz)) (va_A (mW cI cZ a S) sz)) 0 0 (va_A (mW cI cZ a S) sz) := by
  refine Met.ofW (cc := cX8_cap) (maxL := 3) (ret := (some .boolean)) (by decide) rfl ?_
  intro p e s m args below meth c s₁ B hml hv
  obtain ⟨rfl, hsz, hP, hK, hD0⟩ := hv
  subst hsz
  have hD := hD0.self (sz := s.heap.size)
  have hl := lv_entry ([.ref (a 0), .int x1, .int x2]) (n := 3) (Nat.le_of_ble_eq_true rfl)
  rw [lg_entry_eq]
  generalize (lg_sl ([.ref (a 0), .int x1, .int x2]) ++ List.replicate (3 - (lg_sl ([.ref (a 0), .int x1, .int x2])).length) Slot.unset).toArray = ls at hl ⊢
  have hl : lv_has ls 3 [(0, .ref (a 0)), (1, .int x1), (2, .int x2)] := hl
  exact w_X8_cap ⟨B.exec, B.bytes, B.returns, hml, findClass_of_methodNamed B.named, atoms_spec (ws := wsX8_cap) B.pre, B.notSynchronized⟩ hK (fun q h => Or.inr h) _ S x1 x2 hok rfl _ _ hP hD va_S.rf ls hl
abbrev rm_X8_push : Room := { frames := 0, cells := 0, slots := 0, locals := 0 }
theorem iX8_push_X8 : ∀ w ∈ wsX80, w ∈ wsX8_push := by decide +kernel
def rs_X8_push_27 (S : St)  : St := (sI S 1042 ((S.1 1042) + 1))
def ok_X8_push_27 (S : St)  : Prop := True
set_option maxHeartbeats 4000000 in
set_option maxRecDepth 100000 in
theorem w_X8_push_27 {p : Program} {l : Launch} {e : Env} {s : State} {m : MethodId} {args : Array Value} {below : List Frame} {meth : Method} {c : Code} {dC : Nat → ClassId} {dI : Nat → Nat → Nat} {cI cZ : ClassId} {a : Nat → Nat} {A : Nat → Prop} (C0 : Cx p s m args meth c RX8 cX8_push none 2 wsX8_push) (hK : va_K (dC, dI) vwCl (tI cI cZ) s) (hA : ∀ q, s.heap.size ≤ q → A q) (Z : St) (S : St)  (hok : ok_X8_push_27 S) (hZ : rs_X8_push_27 S = Z) (H : Heap) (locs : List Loc) (hP : va_P (dC, dI) vwCl (mW cI cZ a S) H) (hD : va_D A (mW cI cZ a S)) (hS : va_S A s.heap H locs) (ls : Array Slot) (hl : lv_has ls 2 [(0, .ref (a 0))]) : W p l e rm_X8_push s m args below meth c H locs 0 0 (MQ below (va_Qv (fun u : St => u = Z) (mWB dC dI cI cZ a A) A) args s 0 0 A) (F0 m 27 ls []) := by
  obtain ⟨hx, hb, hr, hml, hown, hts, hlocks⟩ := id C0
  rw [ok_X8_push_27] at hok
  rw [rs_X8_push_27] at hZ
  refine lv_aload_n hx hb dX8_push_27 rfl (lv_at hl 0 rfl) ?_
  refine lv_dup hx hb dX8_push_28 rfl ?_
  refine va_get (D := (dC, dI)) (ci := 7) (v := .int (S.1 1042)) (C := RX8) (T := TX8) (N := 35) hx hb hts iX8_push_X8 hown hK hP 0 rfl rfl 32 (by decide) (hts (.fieldLink RX8 119 "RiskHouseModel" "top" "I") (by decide +kernel)) (fun _ h9 => h9) rfl dX8_push_29 ?_
  refine lv_iconst (v := 1) hx hb dX8_push_32 (by decide) ?_
  refine lv_iadd hx hb dX8_push_33 ?_
  refine va_put (D := (dC, dI)) (ci := 7) (v := .int ((S.1 1042) + 1)) (ty := .int) (C := RX8) (T := TX8) (N := 35) hx hb hts iX8_push_X8 tyX8 tyX8_ok nmX8 hown hK hP hD hS 0 rfl rfl 32 (by decide) (hts (.fieldLink RX8 119 "RiskHouseModel" "top" "I") (by decide +kernel)) (fun _ h9 => h9) rfl (by decide +kernel) rfl rfl (Nat.le_of_ble_eq_true rfl) dX8_push_34 (fun H locs hP hD hS => ?_)
  have hP : va_P (dC, dI) vwCl (mW cI cZ a (sI S 1042 ((S.1 1042) + 1))) H := hP
  have hD : va_D A (mW cI cZ a (sI S 1042 ((S.1 1042) + 1))) := hD
  exact W.vret hx hb hr (fun t ht hW => ⟨⟨(sI S 1042 ((S.1 1042) + 1)), rfl, hZ, by rw [ht]; exact hP, va_K.moved hW.alike hK, hD⟩, hS.F ht⟩) hS.2.2 dX8_push_37 hlocks
def rs_X8_push (S : St) (x1 : Int32) : St := (if (S.1 1042) = 8 then (sI S 1045 3) else (rs_X8_push_27 (sA S 27 (S.1 1042).toNatClampNeg x1)))
def ok_X8_push (S : St) (x1 : Int32) : Prop := (if (S.1 1042) = 8 then True else ((vp_in (S.1 1042) 8) ∧ ok_X8_push_27 (sA S 27 (S.1 1042).toNatClampNeg x1)))
set_option maxHeartbeats 4000000 in
set_option maxRecDepth 100000 in
theorem w_X8_push {p : Program} {l : Launch} {e : Env} {s : State} {m : MethodId} {args : Array Value} {below : List Frame} {meth : Method} {c : Code} {dC : Nat → ClassId} {dI : Nat → Nat → Nat} {cI cZ : ClassId} {a : Nat → Nat} {A : Nat → Prop} (C0 : Cx p s m args meth c RX8 cX8_push none 2 wsX8_push) (hK : va_K (dC, dI) vwCl (tI cI cZ) s) (hA : ∀ q, s.heap.size ≤ q → A q) (Z : St) (S : St) (x1 : Int32) (hok : ok_X8_push S x1) (hZ : rs_X8_push S x1 = Z) (H : Heap) (locs : List Loc) (hP : va_P (dC, dI) vwCl (mW cI cZ a S) H) (hD : va_D A (mW cI cZ a S)) (hS : va_S A s.heap H locs) (ls : Array Slot) (hl : lv_has ls 2 [(0, .ref (a 0)), (1, .int x1)]) : W p l e rm_X8_push s m args below meth c H locs 0 0 (MQ below (va_Qv (fun u : St => u = Z) (mWB dC dI cI cZ a A) A) args s 0 0 A) (F0 m 0 ls []) := by
  obtain ⟨hx, hb, hr, hml, hown, hts, hlocks⟩ := id C0
  rw [ok_X8_push] at hok
  rw [rs_X8_push] at hZ
  refine lv_aload_n hx hb dX8_push_0 rfl (lv_at hl 0 rfl) ?_
  refine va_get (D := (dC, dI)) (ci := 7) (v := .int (S.1 1042)) (C := RX8) (T := TX8) (N := 35) hx hb hts iX8_push_X8 hown hK hP 0 rfl rfl 32 (by decide) (hts (.fieldLink RX8 119 "RiskHouseModel" "top" "I") (by decide +kernel)) (fun _ h9 => h9) rfl dX8_push_1 ?_
  refine lv_bipush (v := 8) hx hb dX8_push_4 (by decide) ?_
  refine lv_icmp_ne (tgt := 17) hx hb dX8_push_6 (by decide) (fun c_1 => ?_) (fun c_1 => ?_)
  · have hok := okF hok c_1
    have hZ := rsF hZ c_1
    refine lv_aload_n hx hb dX8_push_17 rfl (lv_at hl 0 rfl) ?_
    refine va_get (D := (dC, dI)) (ci := 7) (v := .ref (a 23)) (C := RX8) (T := TX8) (N := 35) hx hb hts iX8_push_X8 hown hK hP 0 rfl rfl 31 (by decide) (hts (.fieldLink RX8 81 "RiskHouseModel" "stack" "[I") (by decide +kernel)) (fun _ h9 => h9) rfl dX8_push_18 ?_
    refine lv_aload_n hx hb dX8_push_21 rfl (lv_at hl 0 rfl) ?_
    refine va_get (D := (dC, dI)) (ci := 7) (v := .int (S.1 1042)) (C := RX8) (T := TX8) (N := 35) hx hb hts iX8_push_X8 hown hK hP 0 rfl rfl 32 (by decide) (hts (.fieldLink RX8 119 "RiskHouseModel" "top" "I") (by decide +kernel)) (fun _ h9 => h9) rfl dX8_push_22 ?_
    refine lv_iload_n hx hb dX8_push_25 rfl (lv_at hl 1 rfl) ?_
    obtain ⟨h_2, hok⟩ := hok
    refine va_iast hx hb hK hP hD hS 23 0 rfl rfl h_2 dX8_push_26 (fun H locs hP hD hS => ?_)
    have hP : va_P (dC, dI) vwCl (mW cI cZ a (sA S 27 (S.1 1042).toNatClampNeg x1)) H := hP
    have hD : va_D A (mW cI cZ a (sA S 27 (S.1 1042).toNatClampNeg x1)) := hD
    exact w_X8_push_27 C0 hK hA Z (sA S 27 (S.1 1042).toNatClampNeg x1) hok hZ _ _ hP hD hS _ (lv_sub hl [0] rfl)
  · have hok := okT hok c_1
    have hZ := rsT hZ c_1
    refine lv_aload_n hx hb dX8_push_9 rfl (lv_at hl 0 rfl) ?_
    refine lv_iconst (v := 3) hx hb dX8_push_10 (by decide) ?_
    refine va_put (D := (dC, dI)) (ci := 7) (v := .int 3) (ty := .int) (C := RX8) (T := TX8) (N := 35) hx hb hts iX8_push_X8 tyX8 tyX8_ok nmX8 hown hK hP hD hS 0 rfl rfl 34 (by decide) (hts (.fieldLink RX8 122 "RiskHouseModel" "why" "I") (by decide +kernel)) (fun _ h9 => h9) rfl (by decide +kernel) rfl rfl (Nat.le_of_ble_eq_true rfl) dX8_push_11 (fun H locs hP hD hS => ?_)
    have hP : va_P (dC, dI) vwCl (mW cI cZ a (sI S 1045 3)) H := hP
    have hD : va_D A (mW cI cZ a (sI S 1045 3)) := hD
    refine lv_goto (tgt := 37) hx hb dX8_push_14 (by decide) ?_
    exact W.vret hx hb hr (fun t ht hW => ⟨⟨(sI S 1045 3), rfl, hZ, by rw [ht]; exact hP, va_K.moved hW.alike hK, hD⟩, hS.F ht⟩) hS.2.2 dX8_push_37 hlocks
set_option maxHeartbeats 4000000 in
set_option maxRecDepth 100000 in
theorem c_X8_push (l : Launch) (dC : Nat → ClassId) (dI : Nat → Nat → Nat) (cI cZ : ClassId) (a : Nat → Nat) (sz : Nat) (S : St) (x1 : Int32) (hok : ok_X8_push S x1) : Met l yX8_push wsX8_push rm_X8_push (va_Pc [.ref (a 0), .int x1] (mWP dC dI cI cZ a sz S)) (va_Qv (fun u : St => u = rs_X8_push S x1) (mWB dC dI cI cZ a (va_A (mW cI cZ a S) sz)) (va_A (mW cI cZ a S) sz)) 0 0 (va_A (mW cI cZ a S) sz) := by
  refine Met.ofW (cc := cX8_push) (maxL := 2) (ret := none) (by decide) rfl ?_
  intro p e s m args below meth c s₁ B hml hv
  obtain ⟨rfl, hsz, hP, hK, hD0⟩ := hv
  subst hsz
  have hD := hD0.self (sz := s.heap.size)
  have hl := lv_entry ([.ref (a 0), .int x1]) (n := 2) (Nat.le_of_ble_eq_true rfl)
  rw [lg_entry_eq]
  generalize (lg_sl ([.ref (a 0), .int x1]) ++ List.replicate (2 - (lg_sl ([.ref (a 0), .int x1])).length) Slot.unset).toArray = ls at hl ⊢
  have hl : lv_has ls 2 [(0, .ref (a 0)), (1, .int x1)] := hl
  exact w_X8_push ⟨B.exec, B.bytes, B.returns, hml, findClass_of_methodNamed B.named, atoms_spec (ws := wsX8_push) B.pre, B.notSynchronized⟩ hK (fun q h => Or.inr h) _ S x1 hok rfl _ _ hP hD va_S.rf ls hl
abbrev rm_X8_gives : Room := { frames := 0, cells := 0, slots := 0, locals := 0 }
def rs_X8_gives_58 (z0 : Int32) (z1 : Int32) : Int32 := (z0 / z1)
def ok_X8_gives_58 (z0 : Int32) (z1 : Int32) : Prop := ((¬ z1 = 0) ∧ True)
set_option maxHeartbeats 4000000 in
set_option maxRecDepth 100000 in
theorem w_X8_gives_58 {p : Program} {l : Launch} {e : Env} {s : State} {m : MethodId} {args : Array Value} {below : List Frame} {meth : Method} {c : Code} {A : Nat → Prop} (C0 : Cx p s m args meth c RX8 cX8_gives (some .int) 3 wsX8_gives) (hA : ∀ q, s.heap.size ≤ q → A q) (Z : Int32) (z0 : Int32) (z1 : Int32) (hok : ok_X8_gives_58 z0 z1) (hZ : rs_X8_gives_58 z0 z1 = Z) (H : Heap) (locs : List Loc) (hS : va_S A s.heap H locs) (ls : Array Slot) (hl : lv_has ls 3 []) : W p l e rm_X8_gives s m args below meth c H locs 0 0 (MQ below (va_Qi (fun (r : Int32) (_ : Unit) => r = Z) (fun _ _ => True) A) args s 0 0 A) (F0 m 58 ls [.int z1, .int z0]) := by
  obtain ⟨hx, hb, hr, hml, hown, hts, hlocks⟩ := id C0
  rw [ok_X8_gives_58] at hok
  rw [rs_X8_gives_58] at hZ
  obtain ⟨h_1, hok⟩ := hok
  refine lv_idiv hx hb dX8_gives_58 h_1 ?_
  exact W.iret (v := (z0 / z1)) hx hb hr (fun t ht hW => ⟨⟨(z0 / z1), (), rfl, hZ, trivial⟩, hS.F ht⟩) hS.2.2 dX8_gives_59 hlocks
def rs_X8_gives_70 (z0 : Int32) (z1 : Int32) : Int32 := (z0 - z0 / z1 * z1)
def ok_X8_gives_70 (z0 : Int32) (z1 : Int32) : Prop := ((¬ z1 = 0) ∧ True)
set_option maxHeartbeats 4000000 in
set_option maxRecDepth 100000 in
theorem w_X8_gives_70 {p : Program} {l : Launch} {e : Env} {s : State} {m : MethodId} {args : Array Value} {below : List Frame} {meth : Method} {c : Code} {A : Nat → Prop} (C0 : Cx p s m args meth c RX8 cX8_gives (some .int) 3 wsX8_gives) (hA : ∀ q, s.heap.size ≤ q → A q) (Z : Int32) (z0 : Int32) (z1 : Int32) (hok : ok_X8_gives_70 z0 z1) (hZ : rs_X8_gives_70 z0 z1 = Z) (H : Heap) (locs : List Loc) (hS : va_S A s.heap H locs) (ls : Array Slot) (hl : lv_has ls 3 []) : W p l e rm_X8_gives s m args below meth c H locs 0 0 (MQ below (va_Qi (fun (r : Int32) (_ : Unit) => r = Z) (fun _ _ => True) A) args s 0 0 A) (F0 m 70 ls [.int z1, .int z0]) := by
  obtain ⟨hx, hb, hr, hml, hown, hts, hlocks⟩ := id C0
  rw [ok_X8_gives_70] at hok
  rw [rs_X8_gives_70] at hZ
  obtain ⟨h_1, hok⟩ := hok
  refine lv_irem hx hb dX8_gives_70 h_1 ?_
  exact W.iret (v := (z0 - z0 / z1 * z1)) hx hb hr (fun t ht hW => ⟨⟨(z0 - z0 / z1 * z1), (), rfl, hZ, trivial⟩, hS.F ht⟩) hS.2.2 dX8_gives_71 hlocks
def rs_X8_gives (x0 : Int32) (x1 : Int32) (x2 : Int32) : Int32 := (if x0 = 4 then (x1 + x2) else (if x0 = 5 then (x1 - x2) else (if x0 = 6 then (x1 * x2) else (if x0 = 7 then (if x2 = 0 then (rs_X8_gives_58 x1 1) else (rs_X8_gives_58 x1 x2)) else (if x0 = 8 then (if x2 = 0 then (rs_X8_gives_70 x1 1) else (rs_X8_gives_70 x1 x2)) else (if x2 ≤ x1 then 0 else 1))))))
def ok_X8_gives (x0 : Int32) (x1 : Int32) (x2 : Int32) : Prop := (if x0 = 4 then True else (if x0 = 5 then True else (if x0 = 6 then True else (if x0 = 7 then (if x2 = 0 then ok_X8_gives_58 x1 1 else ok_X8_gives_58 x1 x2) else (if x0 = 8 then (if x2 = 0 then ok_X8_gives_70 x1 1 else ok_X8_gives_70 x1 x2) else (if x2 ≤ x1 then True else True))))))
set_option maxHeartbeats 4000000 in
set_option maxRecDepth 100000 in
theorem w_X8_gives {p : Program} {l : Launch} {e : Env} {s : State} {m : MethodId} {args : Array Value} {below : List Frame} {meth : Method} {c : Code} {A : Nat → Prop} (C0 : Cx p s m args meth c RX8 cX8_gives (some .int) 3 wsX8_gives) (hA : ∀ q, s.heap.size ≤ q → A q) (Z : Int32) (x0 : Int32) (x1 : Int32) (x2 : Int32) (hok : ok_X8_gives x0 x1 x2) (hZ : rs_X8_gives x0 x1 x2 = Z) (H : Heap) (locs : List Loc) (hS : va_S A s.heap H locs) (ls : Array Slot) (hl : lv_has ls 3 [(0, .int x0), (1, .int x1), (2, .int x2)]) : W p l e rm_X8_gives s m args below meth c H locs 0 0 (MQ below (va_Qi (fun (r : Int32) (_ : Unit) => r = Z) (fun _ _ => True) A) args s 0 0 A) (F0 m 0 ls []) := by
  obtain ⟨hx, hb, hr, hml, hown, hts, hlocks⟩ := id C0
  rw [ok_X8_gives] at hok
  rw [rs_X8_gives] at hZ
  refine lv_iload_n hx hb dX8_gives_0 rfl (lv_at hl 0 rfl) ?_
  by_cases c_4_k4 : x0 = 4
  · have hok := okT hok c_4_k4
    have hZ := rsT hZ c_4_k4
    refine lv_tableIn (off := 35) (tgt := 36) hx hb dX8_gives_1 (by rw [c_4_k4]; decide) (by rw [c_4_k4]; decide) (by rw [c_4_k4]; rfl) (by decide) ?_
    refine lv_iload_n hx hb dX8_gives_36 rfl (lv_at hl 1 rfl) ?_
    refine lv_iload_n hx hb dX8_gives_37 rfl (lv_at hl 2 rfl) ?_
    refine lv_iadd hx hb dX8_gives_38 ?_
    exact W.iret (v := (x1 + x2)) hx hb hr (fun t ht hW => ⟨⟨(x1 + x2), (), rfl, hZ, trivial⟩, hS.F ht⟩) hS.2.2 dX8_gives_39 hlocks
  · have hok := okF hok c_4_k4
    have hZ := rsF hZ c_4_k4
    by_cases c_4_k5 : x0 = 5
    · have hok := okT hok c_4_k5
      have hZ := rsT hZ c_4_k5
      refine lv_tableIn (off := 39) (tgt := 40) hx hb dX8_gives_1 (by rw [c_4_k5]; decide) (by rw [c_4_k5]; decide) (by rw [c_4_k5]; rfl) (by decide) ?_
      refine lv_iload_n hx hb dX8_gives_40 rfl (lv_at hl 1 rfl) ?_
      refine lv_iload_n hx hb dX8_gives_41 rfl (lv_at hl 2 rfl) ?_
      refine lv_isub hx hb dX8_gives_42 ?_
      exact W.iret (v := (x1 - x2)) hx hb hr (fun t ht hW => ⟨⟨(x1 - x2), (), rfl, hZ, trivial⟩, hS.F ht⟩) hS.2.2 dX8_gives_43 hlocks
    · have hok := okF hok c_4_k5
      have hZ := rsF hZ c_4_k5
      by_cases c_4_k6 : x0 = 6
      · have hok := okT hok c_4_k6
        have hZ := rsT hZ c_4_k6
        refine lv_tableIn (off := 43) (tgt := 44) hx hb dX8_gives_1 (by rw [c_4_k6]; decide) (by rw [c_4_k6]; decide) (by rw [c_4_k6]; rfl) (by decide) ?_
        refine lv_iload_n hx hb dX8_gives_44 rfl (lv_at hl 1 rfl) ?_
        refine lv_iload_n hx hb dX8_gives_45 rfl (lv_at hl 2 rfl) ?_
        refine lv_imul hx hb dX8_gives_46 ?_
        exact W.iret (v := (x1 * x2)) hx hb hr (fun t ht hW => ⟨⟨(x1 * x2), (), rfl, hZ, trivial⟩, hS.F ht⟩) hS.2.2 dX8_gives_47 hlocks
      · have hok := okF hok c_4_k6
        have hZ := rsF hZ c_4_k6
        by_cases c_4_k7 : x0 = 7
        · have hok := okT hok c_4_k7
          have hZ := rsT hZ c_4_k7
          refine lv_tableIn (off := 47) (tgt := 48) hx hb dX8_gives_1 (by rw [c_4_k7]; decide) (by rw [c_4_k7]; decide) (by rw [c_4_k7]; rfl) (by decide) ?_
          refine lv_iload_n hx hb dX8_gives_48 rfl (lv_at hl 1 rfl) ?_
          refine lv_iload_n hx hb dX8_gives_49 rfl (lv_at hl 2 rfl) ?_
          refine lv_if_ne (tgt := 57) hx hb dX8_gives_50 (by decide) (fun c_1 => ?_) (fun c_1 => ?_)
          · have hok := okF hok c_1
            have hZ := rsF hZ c_1
            refine lv_iload_n hx hb dX8_gives_57 rfl (lv_at hl 2 rfl) ?_
            exact w_X8_gives_58 C0  hA Z x1 x2 hok hZ _ _ hS _ (lv_sub hl [] rfl)
          · have hok := okT hok c_1
            have hZ := rsT hZ c_1
            refine lv_iconst (v := 1) hx hb dX8_gives_53 (by decide) ?_
            refine lv_goto (tgt := 58) hx hb dX8_gives_54 (by decide) ?_
            exact w_X8_gives_58 C0  hA Z x1 1 hok hZ _ _ hS _ (lv_sub hl [] rfl)
        · have hok := okF hok c_4_k7
          have hZ := rsF hZ c_4_k7
          by_cases c_4_k8 : x0 = 8
          · have hok := okT hok c_4_k8
            have hZ := rsT hZ c_4_k8
            refine lv_tableIn (off := 59) (tgt := 60) hx hb dX8_gives_1 (by rw [c_4_k8]; decide) (by rw [c_4_k8]; decide) (by rw [c_4_k8]; rfl) (by decide) ?_
            refine lv_iload_n hx hb dX8_gives_60 rfl (lv_at hl 1 rfl) ?_
            refine lv_iload_n hx hb dX8_gives_61 rfl (lv_at hl 2 rfl) ?_
            refine lv_if_ne (tgt := 69) hx hb dX8_gives_62 (by decide) (fun c_2 => ?_) (fun c_2 => ?_)
            · have hok := okF hok c_2
              have hZ := rsF hZ c_2
              refine lv_iload_n hx hb dX8_gives_69 rfl (lv_at hl 2 rfl) ?_
              exact w_X8_gives_70 C0  hA Z x1 x2 hok hZ _ _ hS _ (lv_sub hl [] rfl)
            · have hok := okT hok c_2
              have hZ := rsT hZ c_2
              refine lv_iconst (v := 1) hx hb dX8_gives_65 (by decide) ?_
              refine lv_goto (tgt := 70) hx hb dX8_gives_66 (by decide) ?_
              exact w_X8_gives_70 C0  hA Z x1 1 hok hZ _ _ hS _ (lv_sub hl [] rfl)
          · have hok := okF hok c_4_k8
            have hZ := rsF hZ c_4_k8
            refine lv_tableOut (tgt := 72) hx hb dX8_gives_1 (by have q0 := lv_neT (a := 4) c_4_k4 (by decide); have q1 := lv_neT (a := 5) c_4_k5 (by decide); have q2 := lv_neT (a := 6) c_4_k6 (by decide); have q3 := lv_neT (a := 7) c_4_k7 (by decide); have q4 := lv_neT (a := 8) c_4_k8 (by decide); omega) (by decide) ?_
            refine lv_iload_n hx hb dX8_gives_72 rfl (lv_at hl 1 rfl) ?_
            refine lv_iload_n hx hb dX8_gives_73 rfl (lv_at hl 2 rfl) ?_
            refine lv_icmp_ge (tgt := 81) hx hb dX8_gives_74 (by decide) (fun c_3 => ?_) (fun c_3 => ?_)
            · have hok := okT hok c_3
              have hZ := rsT hZ c_3
              refine lv_iconst (v := 0) hx hb dX8_gives_81 (by decide) ?_
              exact W.iret (v := 0) hx hb hr (fun t ht hW => ⟨⟨0, (), rfl, hZ, trivial⟩, hS.F ht⟩) hS.2.2 dX8_gives_82 hlocks
            · have hok := okF hok c_3
              have hZ := rsF hZ c_3
              refine lv_iconst (v := 1) hx hb dX8_gives_77 (by decide) ?_
              refine lv_goto (tgt := 82) hx hb dX8_gives_78 (by decide) ?_
              exact W.iret (v := 1) hx hb hr (fun t ht hW => ⟨⟨1, (), rfl, hZ, trivial⟩, hS.F ht⟩) hS.2.2 dX8_gives_82 hlocks
set_option maxHeartbeats 4000000 in
set_option maxRecDepth 100000 in
theorem c_X8_gives (l : Launch) (sz : Nat) (x0 : Int32) (x1 : Int32) (x2 : Int32) (hok : ok_X8_gives x0 x1 x2) : Met l yX8_gives wsX8_gives rm_X8_gives (va_Pc [.int x0, .int x1, .int x2] (fun U => U.heap.size = sz)) (va_Qi (fun (r : Int32) (_ : Unit) => r = rs_X8_gives x0 x1 x2) (fun _ _ => True) (va_A [] sz)) 0 0 (va_A [] sz) := by
  refine Met.ofW (cc := cX8_gives) (maxL := 3) (ret := (some .int)) (by decide) rfl ?_
  intro p e s m args below meth c s₁ B hml hv
  obtain ⟨rfl, hsz⟩ := hv
  subst hsz
  have hl := lv_entry ([.int x0, .int x1, .int x2]) (n := 3) (Nat.le_of_ble_eq_true rfl)
  rw [lg_entry_eq]
  generalize (lg_sl ([.int x0, .int x1, .int x2]) ++ List.replicate (3 - (lg_sl ([.int x0, .int x1, .int x2])).length) Slot.unset).toArray = ls at hl ⊢
  have hl : lv_has ls 3 [(0, .int x0), (1, .int x1), (2, .int x2)] := hl
  exact w_X8_gives ⟨B.exec, B.bytes, B.returns, hml, findClass_of_methodNamed B.named, atoms_spec (ws := wsX8_gives) B.pre, B.notSynchronized⟩ (fun q h => Or.inr h) _ x0 x1 x2 hok rfl _ _ va_S.rf ls hl
abbrev rm_X8_both : Room := { frames := 1, cells := 0, slots := 0, locals := 22 }
theorem iX8_both_X8 : ∀ w ∈ wsX80, w ∈ wsX8_both := by decide +kernel
def rs_X8_both_60 (S : St) (x1 : Int32) : St := (sA S 27 ((S.1 1042) - 1).toNatClampNeg (rs_X8_gives x1 ((S.2 27) ((S.1 1042) - 1).toNatClampNeg) ((S.2 27) (S.1 1042).toNatClampNeg)))
def ok_X8_both_60 (S : St) (x1 : Int32) : Prop := ((vp_in ((S.1 1042) - 1) 8) ∧ ((vp_in (S.1 1042) 8) ∧ ((ok_X8_gives x1 ((S.2 27) ((S.1 1042) - 1).toNatClampNeg) ((S.2 27) (S.1 1042).toNatClampNeg)) ∧ ((vp_in ((S.1 1042) - 1) 8) ∧ True))))
set_option maxHeartbeats 4000000 in
set_option maxRecDepth 100000 in
theorem w_X8_both_60 {p : Program} {l : Launch} {e : Env} {s : State} {m : MethodId} {args : Array Value} {below : List Frame} {meth : Method} {c : Code} {dC : Nat → ClassId} {dI : Nat → Nat → Nat} {cI cZ : ClassId} {a : Nat → Nat} {A : Nat → Prop} (C0 : Cx p s m args meth c RX8 cX8_both none 2 wsX8_both) (hK : va_K (dC, dI) vwCl (tI cI cZ) s) (hA : ∀ q, s.heap.size ≤ q → A q) (Z : St) (S : St) (x1 : Int32) (hok : ok_X8_both_60 S x1) (hZ : rs_X8_both_60 S x1 = Z) (H : Heap) (locs : List Loc) (hP : va_P (dC, dI) vwCl (mW cI cZ a S) H) (hD : va_D A (mW cI cZ a S)) (hS : va_S A s.heap H locs) (ls : Array Slot) (hl : lv_has ls 2 [(0, .ref (a 0)), (1, .int x1)]) : W p l e rm_X8_both s m args below meth c H locs 0 0 (MQ below (va_Qv (fun u : St => u = Z) (mWB dC dI cI cZ a A) A) args s 0 0 A) (F0 m 60 ls []) := by
  obtain ⟨hx, hb, hr, hml, hown, hts, hlocks⟩ := id C0
  rw [ok_X8_both_60] at hok
  rw [rs_X8_both_60] at hZ
  refine lv_aload_n hx hb dX8_both_60 rfl (lv_at hl 0 rfl) ?_
  refine va_get (D := (dC, dI)) (ci := 7) (v := .ref (a 23)) (C := RX8) (T := TX8) (N := 35) hx hb hts iX8_both_X8 hown hK hP 0 rfl rfl 31 (by decide) (hts (.fieldLink RX8 81 "RiskHouseModel" "stack" "[I") (by decide +kernel)) (fun _ h9 => h9) rfl dX8_both_61 ?_
  refine lv_aload_n hx hb dX8_both_64 rfl (lv_at hl 0 rfl) ?_
  refine va_get (D := (dC, dI)) (ci := 7) (v := .int (S.1 1042)) (C := RX8) (T := TX8) (N := 35) hx hb hts iX8_both_X8 hown hK hP 0 rfl rfl 32 (by decide) (hts (.fieldLink RX8 119 "RiskHouseModel" "top" "I") (by decide +kernel)) (fun _ h9 => h9) rfl dX8_both_65 ?_
  refine lv_iconst (v := 1) hx hb dX8_both_68 (by decide) ?_
  refine lv_isub hx hb dX8_both_69 ?_
  refine lv_iload_n hx hb dX8_both_70 rfl (lv_at hl 1 rfl) ?_
  refine lv_aload_n hx hb dX8_both_71 rfl (lv_at hl 0 rfl) ?_
  refine va_get (D := (dC, dI)) (ci := 7) (v := .ref (a 23)) (C := RX8) (T := TX8) (N := 35) hx hb hts iX8_both_X8 hown hK hP 0 rfl rfl 31 (by decide) (hts (.fieldLink RX8 81 "RiskHouseModel" "stack" "[I") (by decide +kernel)) (fun _ h9 => h9) rfl dX8_both_72 ?_
  refine lv_aload_n hx hb dX8_both_75 rfl (lv_at hl 0 rfl) ?_
  refine va_get (D := (dC, dI)) (ci := 7) (v := .int (S.1 1042)) (C := RX8) (T := TX8) (N := 35) hx hb hts iX8_both_X8 hown hK hP 0 rfl rfl 32 (by decide) (hts (.fieldLink RX8 119 "RiskHouseModel" "top" "I") (by decide +kernel)) (fun _ h9 => h9) rfl dX8_both_76 ?_
  refine lv_iconst (v := 1) hx hb dX8_both_79 (by decide) ?_
  refine lv_isub hx hb dX8_both_80 ?_
  obtain ⟨h_1, hok⟩ := hok
  refine va_iald (f := (S.2 27)) hx hb hK hP 23 0 rfl rfl h_1 dX8_both_81 ?_
  refine lv_aload_n hx hb dX8_both_82 rfl (lv_at hl 0 rfl) ?_
  refine va_get (D := (dC, dI)) (ci := 7) (v := .ref (a 23)) (C := RX8) (T := TX8) (N := 35) hx hb hts iX8_both_X8 hown hK hP 0 rfl rfl 31 (by decide) (hts (.fieldLink RX8 81 "RiskHouseModel" "stack" "[I") (by decide +kernel)) (fun _ h9 => h9) rfl dX8_both_83 ?_
  refine lv_aload_n hx hb dX8_both_86 rfl (lv_at hl 0 rfl) ?_
  refine va_get (D := (dC, dI)) (ci := 7) (v := .int (S.1 1042)) (C := RX8) (T := TX8) (N := 35) hx hb hts iX8_both_X8 hown hK hP 0 rfl rfl 32 (by decide) (hts (.fieldLink RX8 119 "RiskHouseModel" "top" "I") (by decide +kernel)) (fun _ h9 => h9) rfl dX8_both_87 ?_
  obtain ⟨h_2, hok⟩ := hok
  refine va_iald (f := (S.2 27)) hx hb hK hP 23 0 rfl rfl h_2 dX8_both_90 ?_
  obtain ⟨k_3, hok⟩ := hok
  have hFc := wFr hS hA
  refine va_calli (va_runS (As := [.int x1, .int ((S.2 27) ((S.1 1042) - 1).toNatClampNeg), .int ((S.2 27) (S.1 1042).toNatClampNeg)]) (rest := [.int ((S.1 1042) - 1), .ref (a 23)]) ⟨hx, hb, hml, hown, hts⟩ (c_X8_gives l H.size x1 ((S.2 27) ((S.1 1042) - 1).toNatClampNeg) ((S.2 27) (S.1 1042).toNatClampNeg) k_3) (va_cwS 3 hts gX8_both_X8_gives rfl rfl rfl (by decide +kernel) ⟨Nat.le_of_ble_eq_true rfl, Nat.le_of_ble_eq_true rfl⟩) ⟨fun a9 U g9 mk9 q9 => q9, fun U hU hW => ⟨rfl, congrArg Array.size hU⟩⟩ rfl rfl hl.1 rfl (lv_room (Nat.le_of_ble_eq_true rfl)) dX8_both_91 ⟨Nat.zero_le _, Nat.zero_le _⟩) hS (fun q _ h => hFc q h) hFc (fun r u t H1 locs ht hvm hw hB hz1 hk1 hS => ?_)
  have hP := wKp hP hk1
  subst hw
  generalize H1 = H at hP hS ⊢
  obtain ⟨h_4, hok⟩ := hok
  refine va_iast hx hb hK hP hD hS 23 0 rfl rfl h_4 dX8_both_94 (fun H locs hP hD hS => ?_)
  have hP : va_P (dC, dI) vwCl (mW cI cZ a (sA S 27 ((S.1 1042) - 1).toNatClampNeg (rs_X8_gives x1 ((S.2 27) ((S.1 1042) - 1).toNatClampNeg) ((S.2 27) (S.1 1042).toNatClampNeg)))) H := hP
  have hD : va_D A (mW cI cZ a (sA S 27 ((S.1 1042) - 1).toNatClampNeg (rs_X8_gives x1 ((S.2 27) ((S.1 1042) - 1).toNatClampNeg) ((S.2 27) (S.1 1042).toNatClampNeg)))) := hD
  exact W.vret hx hb hr (fun t ht hW => ⟨⟨(sA S 27 ((S.1 1042) - 1).toNatClampNeg (rs_X8_gives x1 ((S.2 27) ((S.1 1042) - 1).toNatClampNeg) ((S.2 27) (S.1 1042).toNatClampNeg))), rfl, hZ, by rw [ht]; exact hP, va_K.moved hW.alike hK, hD⟩, hS.F ht⟩) hS.2.2 dX8_both_95 hlocks
def rs_X8_both_50 (S : St) (x1 : Int32) : St := (rs_X8_both_60 (sI S 1042 ((S.1 1042) - 1)) x1)
def ok_X8_both_50 (S : St) (x1 : Int32) : Prop := ok_X8_both_60 (sI S 1042 ((S.1 1042) - 1)) x1
set_option maxHeartbeats 4000000 in
set_option maxRecDepth 100000 in
theorem w_X8_both_50 {p : Program} {l : Launch} {e : Env} {s : State} {m : MethodId} {args : Array Value} {below : List Frame} {meth : Method} {c : Code} {dC : Nat → ClassId} {dI : Nat → Nat → Nat} {cI cZ : ClassId} {a : Nat → Nat} {A : Nat → Prop} (C0 : Cx p s m args meth c RX8 cX8_both none 2 wsX8_both) (hK : va_K (dC, dI) vwCl (tI cI cZ) s) (hA : ∀ q, s.heap.size ≤ q → A q) (Z : St) (S : St) (x1 : Int32) (hok : ok_X8_both_50 S x1) (hZ : rs_X8_both_50 S x1 = Z) (H : Heap) (locs : List Loc) (hP : va_P (dC, dI) vwCl (mW cI cZ a S) H) (hD : va_D A (mW cI cZ a S)) (hS : va_S A s.heap H locs) (ls : Array Slot) (hl : lv_has ls 2 [(0, .ref (a 0)), (1, .int x1)]) : W p l e rm_X8_both s m args below meth c H locs 0 0 (MQ below (va_Qv (fun u : St => u = Z) (mWB dC dI cI cZ a A) A) args s 0 0 A) (F0 m 50 ls []) := by
  obtain ⟨hx, hb, hr, hml, hown, hts, hlocks⟩ := id C0
  rw [ok_X8_both_50] at hok
  rw [rs_X8_both_50] at hZ
  refine lv_aload_n hx hb dX8_both_50 rfl (lv_at hl 0 rfl) ?_
  refine lv_dup hx hb dX8_both_51 rfl ?_
  refine va_get (D := (dC, dI)) (ci := 7) (v := .int (S.1 1042)) (C := RX8) (T := TX8) (N := 35) hx hb hts iX8_both_X8 hown hK hP 0 rfl rfl 32 (by decide) (hts (.fieldLink RX8 119 "RiskHouseModel" "top" "I") (by decide +kernel)) (fun _ h9 => h9) rfl dX8_both_52 ?_
  refine lv_iconst (v := 1) hx hb dX8_both_55 (by decide) ?_
  refine lv_isub hx hb dX8_both_56 ?_
  refine va_put (D := (dC, dI)) (ci := 7) (v := .int ((S.1 1042) - 1)) (ty := .int) (C := RX8) (T := TX8) (N := 35) hx hb hts iX8_both_X8 tyX8 tyX8_ok nmX8 hown hK hP hD hS 0 rfl rfl 32 (by decide) (hts (.fieldLink RX8 119 "RiskHouseModel" "top" "I") (by decide +kernel)) (fun _ h9 => h9) rfl (by decide +kernel) rfl rfl (Nat.le_of_ble_eq_true rfl) dX8_both_57 (fun H locs hP hD hS => ?_)
  have hP : va_P (dC, dI) vwCl (mW cI cZ a (sI S 1042 ((S.1 1042) - 1))) H := hP
  have hD : va_D A (mW cI cZ a (sI S 1042 ((S.1 1042) - 1))) := hD
  exact w_X8_both_60 C0 hK hA Z (sI S 1042 ((S.1 1042) - 1)) x1 hok hZ _ _ hP hD hS _ (lv_sub hl [0, 1] rfl)
def rs_X8_both_28 (S : St) (x1 : Int32) : St := (if ((S.2 27) ((S.1 1042) - 1).toNatClampNeg) = 0 then (sI S 1045 2) else (rs_X8_both_50 S x1))
def ok_X8_both_28 (S : St) (x1 : Int32) : Prop := ((vp_in ((S.1 1042) - 1) 8) ∧ (if ((S.2 27) ((S.1 1042) - 1).toNatClampNeg) = 0 then True else ok_X8_both_50 S x1))
set_option maxHeartbeats 4000000 in
set_option maxRecDepth 100000 in
theorem w_X8_both_28 {p : Program} {l : Launch} {e : Env} {s : State} {m : MethodId} {args : Array Value} {below : List Frame} {meth : Method} {c : Code} {dC : Nat → ClassId} {dI : Nat → Nat → Nat} {cI cZ : ClassId} {a : Nat → Nat} {A : Nat → Prop} (C0 : Cx p s m args meth c RX8 cX8_both none 2 wsX8_both) (hK : va_K (dC, dI) vwCl (tI cI cZ) s) (hA : ∀ q, s.heap.size ≤ q → A q) (Z : St) (S : St) (x1 : Int32) (hok : ok_X8_both_28 S x1) (hZ : rs_X8_both_28 S x1 = Z) (H : Heap) (locs : List Loc) (hP : va_P (dC, dI) vwCl (mW cI cZ a S) H) (hD : va_D A (mW cI cZ a S)) (hS : va_S A s.heap H locs) (ls : Array Slot) (hl : lv_has ls 2 [(0, .ref (a 0)), (1, .int x1)]) : W p l e rm_X8_both s m args below meth c H locs 0 0 (MQ below (va_Qv (fun u : St => u = Z) (mWB dC dI cI cZ a A) A) args s 0 0 A) (F0 m 28 ls []) := by
  obtain ⟨hx, hb, hr, hml, hown, hts, hlocks⟩ := id C0
  rw [ok_X8_both_28] at hok
  rw [rs_X8_both_28] at hZ
  refine lv_aload_n hx hb dX8_both_28 rfl (lv_at hl 0 rfl) ?_
  refine va_get (D := (dC, dI)) (ci := 7) (v := .ref (a 23)) (C := RX8) (T := TX8) (N := 35) hx hb hts iX8_both_X8 hown hK hP 0 rfl rfl 31 (by decide) (hts (.fieldLink RX8 81 "RiskHouseModel" "stack" "[I") (by decide +kernel)) (fun _ h9 => h9) rfl dX8_both_29 ?_
  refine lv_aload_n hx hb dX8_both_32 rfl (lv_at hl 0 rfl) ?_
  refine va_get (D := (dC, dI)) (ci := 7) (v := .int (S.1 1042)) (C := RX8) (T := TX8) (N := 35) hx hb hts iX8_both_X8 hown hK hP 0 rfl rfl 32 (by decide) (hts (.fieldLink RX8 119 "RiskHouseModel" "top" "I") (by decide +kernel)) (fun _ h9 => h9) rfl dX8_both_33 ?_
  refine lv_iconst (v := 1) hx hb dX8_both_36 (by decide) ?_
  refine lv_isub hx hb dX8_both_37 ?_
  obtain ⟨h_1, hok⟩ := hok
  refine va_iald (f := (S.2 27)) hx hb hK hP 23 0 rfl rfl h_1 dX8_both_38 ?_
  refine lv_if_ne (tgt := 50) hx hb dX8_both_39 (by decide) (fun c_2 => ?_) (fun c_2 => ?_)
  · have hok := okF hok c_2
    have hZ := rsF hZ c_2
    exact w_X8_both_50 C0 hK hA Z S x1 hok hZ _ _ hP hD hS _ (lv_sub hl [0, 1] rfl)
  · have hok := okT hok c_2
    have hZ := rsT hZ c_2
    refine lv_aload_n hx hb dX8_both_42 rfl (lv_at hl 0 rfl) ?_
    refine lv_iconst (v := 2) hx hb dX8_both_43 (by decide) ?_
    refine va_put (D := (dC, dI)) (ci := 7) (v := .int 2) (ty := .int) (C := RX8) (T := TX8) (N := 35) hx hb hts iX8_both_X8 tyX8 tyX8_ok nmX8 hown hK hP hD hS 0 rfl rfl 34 (by decide) (hts (.fieldLink RX8 122 "RiskHouseModel" "why" "I") (by decide +kernel)) (fun _ h9 => h9) rfl (by decide +kernel) rfl rfl (Nat.le_of_ble_eq_true rfl) dX8_both_44 (fun H locs hP hD hS => ?_)
    have hP : va_P (dC, dI) vwCl (mW cI cZ a (sI S 1045 2)) H := hP
    have hD : va_D A (mW cI cZ a (sI S 1045 2)) := hD
    refine lv_goto (tgt := 95) hx hb dX8_both_47 (by decide) ?_
    exact W.vret hx hb hr (fun t ht hW => ⟨⟨(sI S 1045 2), rfl, hZ, by rw [ht]; exact hP, va_K.moved hW.alike hK, hD⟩, hS.F ht⟩) hS.2.2 dX8_both_95 hlocks
def rs_X8_both (S : St) (x1 : Int32) : St := (if 2 ≤ (S.1 1042) then (if x1 = 7 then (rs_X8_both_28 S x1) else (if x1 = 8 then (rs_X8_both_28 S x1) else (rs_X8_both_50 S x1))) else (sI S 1045 3))
def ok_X8_both (S : St) (x1 : Int32) : Prop := (if 2 ≤ (S.1 1042) then (if x1 = 7 then ok_X8_both_28 S x1 else (if x1 = 8 then ok_X8_both_28 S x1 else ok_X8_both_50 S x1)) else True)
set_option maxHeartbeats 4000000 in
set_option maxRecDepth 100000 in
theorem w_X8_both {p : Program} {l : Launch} {e : Env} {s : State} {m : MethodId} {args : Array Value} {below : List Frame} {meth : Method} {c : Code} {dC : Nat → ClassId} {dI : Nat → Nat → Nat} {cI cZ : ClassId} {a : Nat → Nat} {A : Nat → Prop} (C0 : Cx p s m args meth c RX8 cX8_both none 2 wsX8_both) (hK : va_K (dC, dI) vwCl (tI cI cZ) s) (hA : ∀ q, s.heap.size ≤ q → A q) (Z : St) (S : St) (x1 : Int32) (hok : ok_X8_both S x1) (hZ : rs_X8_both S x1 = Z) (H : Heap) (locs : List Loc) (hP : va_P (dC, dI) vwCl (mW cI cZ a S) H) (hD : va_D A (mW cI cZ a S)) (hS : va_S A s.heap H locs) (ls : Array Slot) (hl : lv_has ls 2 [(0, .ref (a 0)), (1, .int x1)]) : W p l e rm_X8_both s m args below meth c H locs 0 0 (MQ below (va_Qv (fun u : St => u = Z) (mWB dC dI cI cZ a A) A) args s 0 0 A) (F0 m 0 ls []) := by
  obtain ⟨hx, hb, hr, hml, hown, hts, hlocks⟩ := id C0
  rw [ok_X8_both] at hok
  rw [rs_X8_both] at hZ
  refine lv_aload_n hx hb dX8_both_0 rfl (lv_at hl 0 rfl) ?_
  refine va_get (D := (dC, dI)) (ci := 7) (v := .int (S.1 1042)) (C := RX8) (T := TX8) (N := 35) hx hb hts iX8_both_X8 hown hK hP 0 rfl rfl 32 (by decide) (hts (.fieldLink RX8 119 "RiskHouseModel" "top" "I") (by decide +kernel)) (fun _ h9 => h9) rfl dX8_both_1 ?_
  refine lv_iconst (v := 2) hx hb dX8_both_4 (by decide) ?_
  refine lv_icmp_ge (tgt := 16) hx hb dX8_both_5 (by decide) (fun c_1 => ?_) (fun c_1 => ?_)
  · have hok := okT hok c_1
    have hZ := rsT hZ c_1
    refine lv_iload_n hx hb dX8_both_16 rfl (lv_at hl 1 rfl) ?_
    refine lv_bipush (v := 7) hx hb dX8_both_17 (by decide) ?_
    refine lv_icmp_eq (tgt := 28) hx hb dX8_both_19 (by decide) (fun c_2 => ?_) (fun c_2 => ?_)
    · have hok := okT hok c_2
      have hZ := rsT hZ c_2
      exact w_X8_both_28 C0 hK hA Z S x1 hok hZ _ _ hP hD hS _ (lv_sub hl [0, 1] rfl)
    · have hok := okF hok c_2
      have hZ := rsF hZ c_2
      refine lv_iload_n hx hb dX8_both_22 rfl (lv_at hl 1 rfl) ?_
      refine lv_bipush (v := 8) hx hb dX8_both_23 (by decide) ?_
      refine lv_icmp_ne (tgt := 50) hx hb dX8_both_25 (by decide) (fun c_3 => ?_) (fun c_3 => ?_)
      · have hok := okF hok c_3
        have hZ := rsF hZ c_3
        exact w_X8_both_50 C0 hK hA Z S x1 hok hZ _ _ hP hD hS _ (lv_sub hl [0, 1] rfl)
      · have hok := okT hok c_3
        have hZ := rsT hZ c_3
        exact w_X8_both_28 C0 hK hA Z S x1 hok hZ _ _ hP hD hS _ (lv_sub hl [0, 1] rfl)
  · have hok := okF hok c_1
    have hZ := rsF hZ c_1
    refine lv_aload_n hx hb dX8_both_8 rfl (lv_at hl 0 rfl) ?_
    refine lv_iconst (v := 3) hx hb dX8_both_9 (by decide) ?_
    refine va_put (D := (dC, dI)) (ci := 7) (v := .int 3) (ty := .int) (C := RX8) (T := TX8) (N := 35) hx hb hts iX8_both_X8 tyX8 tyX8_ok nmX8 hown hK hP hD hS 0 rfl rfl 34 (by decide) (hts (.fieldLink RX8 122 "RiskHouseModel" "why" "I") (by decide +kernel)) (fun _ h9 => h9) rfl (by decide +kernel) rfl rfl (Nat.le_of_ble_eq_true rfl) dX8_both_10 (fun H locs hP hD hS => ?_)
    have hP : va_P (dC, dI) vwCl (mW cI cZ a (sI S 1045 3)) H := hP
    have hD : va_D A (mW cI cZ a (sI S 1045 3)) := hD
    refine lv_goto (tgt := 95) hx hb dX8_both_13 (by decide) ?_
    exact W.vret hx hb hr (fun t ht hW => ⟨⟨(sI S 1045 3), rfl, hZ, by rw [ht]; exact hP, va_K.moved hW.alike hK, hD⟩, hS.F ht⟩) hS.2.2 dX8_both_95 hlocks
set_option maxHeartbeats 4000000 in
set_option maxRecDepth 100000 in
theorem c_X8_both (l : Launch) (dC : Nat → ClassId) (dI : Nat → Nat → Nat) (cI cZ : ClassId) (a : Nat → Nat) (sz : Nat) (S : St) (x1 : Int32) (hok : ok_X8_both S x1) : Met l yX8_both wsX8_both rm_X8_both (va_Pc [.ref (a 0), .int x1] (mWP dC dI cI cZ a sz S)) (va_Qv (fun u : St => u = rs_X8_both S x1) (mWB dC dI cI cZ a (va_A (mW cI cZ a S) sz)) (va_A (mW cI cZ a S) sz)) 0 0 (va_A (mW cI cZ a S) sz) := by
  refine Met.ofW (cc := cX8_both) (maxL := 2) (ret := none) (by decide) rfl ?_
  intro p e s m args below meth c s₁ B hml hv
  obtain ⟨rfl, hsz, hP, hK, hD0⟩ := hv
  subst hsz
  have hD := hD0.self (sz := s.heap.size)
  have hl := lv_entry ([.ref (a 0), .int x1]) (n := 2) (Nat.le_of_ble_eq_true rfl)
  rw [lg_entry_eq]
  generalize (lg_sl ([.ref (a 0), .int x1]) ++ List.replicate (2 - (lg_sl ([.ref (a 0), .int x1])).length) Slot.unset).toArray = ls at hl ⊢
  have hl : lv_has ls 2 [(0, .ref (a 0)), (1, .int x1)] := hl
  exact w_X8_both ⟨B.exec, B.bytes, B.returns, hml, findClass_of_methodNamed B.named, atoms_spec (ws := wsX8_both) B.pre, B.notSynchronized⟩ hK (fun q h => Or.inr h) _ S x1 hok rfl _ _ hP hD va_S.rf ls hl
abbrev rm_X8_goes : Room := { frames := 2, cells := 0, slots := 0, locals := 43 }
theorem iX8_goes_X8 : ∀ w ∈ wsX80, w ∈ wsX8_goes := by decide +kernel
def rs_X8_goes_188 (S : St) (x2 : Int32) (x3 : Int32) : Int32 × St := (if x2 = 10 then (x3, S) else (if x2 = 12 then (16, S) else (((S.1 1043) + 1), S)))
def ok_X8_goes_188 (S : St) (x2 : Int32) (x3 : Int32) : Prop := (if x2 = 10 then True else (if x2 = 12 then True else True))
set_option maxHeartbeats 4000000 in
set_option maxRecDepth 100000 in
theorem w_X8_goes_188 {p : Program} {l : Launch} {e : Env} {s : State} {m : MethodId} {args : Array Value} {below : List Frame} {meth : Method} {c : Code} {dC : Nat → ClassId} {dI : Nat → Nat → Nat} {cI cZ : ClassId} {a : Nat → Nat} {A : Nat → Prop} (C0 : Cx p s m args meth c RX8 cX8_goes (some .int) 5 wsX8_goes) (hK : va_K (dC, dI) vwCl (tI cI cZ) s) (hA : ∀ q, s.heap.size ≤ q → A q) (Z : Int32 × St) (S : St) (x2 : Int32) (x3 : Int32) (hok : ok_X8_goes_188 S x2 x3) (hZ : rs_X8_goes_188 S x2 x3 = Z) (H : Heap) (locs : List Loc) (hP : va_P (dC, dI) vwCl (mW cI cZ a S) H) (hD : va_D A (mW cI cZ a S)) (hS : va_S A s.heap H locs) (ls : Array Slot) (hl : lv_has ls 5 [(0, .ref (a 0)), (2, .int x2), (3, .int x3)]) : W p l e rm_X8_goes s m args below meth c H locs 0 0 (MQ below (va_Qi (fun (r : Int32) (u : St) => (r, u) = Z) (mWB dC dI cI cZ a A) A) args s 0 0 A) (F0 m 188 ls []) := by
  obtain ⟨hx, hb, hr, hml, hown, hts, hlocks⟩ := id C0
  rw [ok_X8_goes_188] at hok
  rw [rs_X8_goes_188] at hZ
  refine lv_iload_n hx hb dX8_goes_188 rfl (lv_at hl 1 rfl) ?_
  refine lv_bipush (v := 10) hx hb dX8_goes_189 (by decide) ?_
  refine lv_icmp_ne (tgt := 198) hx hb dX8_goes_191 (by decide) (fun c_1 => ?_) (fun c_1 => ?_)
  · have hok := okF hok c_1
    have hZ := rsF hZ c_1
    refine lv_iload_n hx hb dX8_goes_198 rfl (lv_at hl 1 rfl) ?_
    refine lv_bipush (v := 12) hx hb dX8_goes_199 (by decide) ?_
    refine lv_icmp_ne (tgt := 209) hx hb dX8_goes_201 (by decide) (fun c_2 => ?_) (fun c_2 => ?_)
    · have hok := okF hok c_2
      have hZ := rsF hZ c_2
      refine lv_aload_n hx hb dX8_goes_209 rfl (lv_at hl 0 rfl) ?_
      refine va_get (D := (dC, dI)) (ci := 7) (v := .int (S.1 1043)) (C := RX8) (T := TX8) (N := 35) hx hb hts iX8_goes_X8 hown hK hP 0 rfl rfl 33 (by decide) (hts (.fieldLink RX8 129 "RiskHouseModel" "at" "I") (by decide +kernel)) (fun _ h9 => h9) rfl dX8_goes_210 ?_
      refine lv_iconst (v := 1) hx hb dX8_goes_213 (by decide) ?_
      refine lv_iadd hx hb dX8_goes_214 ?_
      exact W.iret (v := ((S.1 1043) + 1)) hx hb hr (fun t ht hW => ⟨⟨((S.1 1043) + 1), S, rfl, hZ, by rw [ht]; exact hP, va_K.moved hW.alike hK, hD⟩, hS.F ht⟩) hS.2.2 dX8_goes_215 hlocks
    · have hok := okT hok c_2
      have hZ := rsT hZ c_2
      refine lv_bipush (v := 16) hx hb dX8_goes_204 (by decide) ?_
      refine lv_goto (tgt := 215) hx hb dX8_goes_206 (by decide) ?_
      exact W.iret (v := 16) hx hb hr (fun t ht hW => ⟨⟨16, S, rfl, hZ, by rw [ht]; exact hP, va_K.moved hW.alike hK, hD⟩, hS.F ht⟩) hS.2.2 dX8_goes_215 hlocks
  · have hok := okT hok c_1
    have hZ := rsT hZ c_1
    refine lv_iload_n hx hb dX8_goes_194 rfl (lv_at hl 2 rfl) ?_
    refine lv_goto (tgt := 215) hx hb dX8_goes_195 (by decide) ?_
    exact W.iret (v := x3) hx hb hr (fun t ht hW => ⟨⟨x3, S, rfl, hZ, by rw [ht]; exact hP, va_K.moved hW.alike hK, hD⟩, hS.F ht⟩) hS.2.2 dX8_goes_215 hlocks
def rs_X8_goes_76 (S : St) (x2 : Int32) (x3 : Int32) : Int32 × St := (rs_X8_goes_188 S x2 x3)
def ok_X8_goes_76 (S : St) (x2 : Int32) (x3 : Int32) : Prop := ok_X8_goes_188 S x2 x3
set_option maxHeartbeats 4000000 in
set_option maxRecDepth 100000 in
theorem w_X8_goes_76 {p : Program} {l : Launch} {e : Env} {s : State} {m : MethodId} {args : Array Value} {below : List Frame} {meth : Method} {c : Code} {dC : Nat → ClassId} {dI : Nat → Nat → Nat} {cI cZ : ClassId} {a : Nat → Nat} {A : Nat → Prop} (C0 : Cx p s m args meth c RX8 cX8_goes (some .int) 5 wsX8_goes) (hK : va_K (dC, dI) vwCl (tI cI cZ) s) (hA : ∀ q, s.heap.size ≤ q → A q) (Z : Int32 × St) (S : St) (x2 : Int32) (x3 : Int32) (hok : ok_X8_goes_76 S x2 x3) (hZ : rs_X8_goes_76 S x2 x3 = Z) (H : Heap) (locs : List Loc) (hP : va_P (dC, dI) vwCl (mW cI cZ a S) H) (hD : va_D A (mW cI cZ a S)) (hS : va_S A s.heap H locs) (ls : Array Slot) (hl : lv_has ls 5 [(0, .ref (a 0)), (2, .int x2), (3, .int x3)]) : W p l e rm_X8_goes s m args below meth c H locs 0 0 (MQ below (va_Qi (fun (r : Int32) (u : St) => (r, u) = Z) (mWB dC dI cI cZ a A) A) args s 0 0 A) (F0 m 76 ls []) := by
  obtain ⟨hx, hb, hr, hml, hown, hts, hlocks⟩ := id C0
  rw [ok_X8_goes_76] at hok
  rw [rs_X8_goes_76] at hZ
  refine lv_goto (tgt := 188) hx hb dX8_goes_76 (by decide) ?_
  exact w_X8_goes_188 C0 hK hA Z S x2 x3 hok hZ _ _ hP hD hS _ (lv_sub hl [0, 1, 2] rfl)
def rs_X8_goes_73 (S : St) (x2 : Int32) (x3 : Int32) (z1 : Int32) : Int32 × St := (rs_X8_goes_76 (rs_X8_push S z1) x2 x3)
def ok_X8_goes_73 (S : St) (x2 : Int32) (x3 : Int32) (z1 : Int32) : Prop := ((ok_X8_push S z1) ∧ ok_X8_goes_76 (rs_X8_push S z1) x2 x3)
set_option maxHeartbeats 4000000 in
set_option maxRecDepth 100000 in
theorem w_X8_goes_73 {p : Program} {l : Launch} {e : Env} {s : State} {m : MethodId} {args : Array Value} {below : List Frame} {meth : Method} {c : Code} {dC : Nat → ClassId} {dI : Nat → Nat → Nat} {cI cZ : ClassId} {a : Nat → Nat} {A : Nat → Prop} (C0 : Cx p s m args meth c RX8 cX8_goes (some .int) 5 wsX8_goes) (hK : va_K (dC, dI) vwCl (tI cI cZ) s) (hA : ∀ q, s.heap.size ≤ q → A q) (Z : Int32 × St) (S : St) (x2 : Int32) (x3 : Int32) (z1 : Int32) (hok : ok_X8_goes_73 S x2 x3 z1) (hZ : rs_X8_goes_73 S x2 x3 z1 = Z) (H : Heap) (locs : List Loc) (hP : va_P (dC, dI) vwCl (mW cI cZ a S) H) (hD : va_D A (mW cI cZ a S)) (hS : va_S A s.heap H locs) (ls : Array Slot) (hl : lv_has ls 5 [(0, .ref (a 0)), (2, .int x2), (3, .int x3)]) : W p l e rm_X8_goes s m args below meth c H locs 0 0 (MQ below (va_Qi (fun (r : Int32) (u : St) => (r, u) = Z) (mWB dC dI cI cZ a A) A) args s 0 0 A) (F0 m 73 ls [.int z1, .ref (a 0)]) := by
  obtain ⟨hx, hb, hr, hml, hown, hts, hlocks⟩ := id C0
  rw [ok_X8_goes_73] at hok
  rw [rs_X8_goes_73] at hZ
  obtain ⟨k_1, hok⟩ := hok
  have hFc := wFw (w := mW cI cZ a S) hD hS hA
  refine va_callv (va_runV (As := [.int z1]) (rest := []) ⟨hx, hb, hml, hown, hts⟩ (c_X8_push l dC dI cI cZ a H.size S z1 k_1) (cwV 1 hts gX8_goes_X8_push rfl rfl rfl (by decide +kernel) ⟨Nat.le_of_ble_eq_true rfl, Nat.le_of_ble_eq_true rfl⟩) ⟨wBl, va_recv hK hP (ci := 7) (q0 := 0) rfl rfl, fun U hU hW => ⟨rfl, by rw [hU], by rw [hU]; exact hP, va_K.moved hW.alike hK, hD.weaken (fun _ _ _ _ => trivial)⟩⟩ rfl rfl hl.1 rfl (lv_room (Nat.le_of_ble_eq_true rfl)) dX8_goes_73 ⟨Nat.zero_le _, Nat.zero_le _⟩) hS (fun q _ h => hFc q h) hFc (fun u t H1 locs ht hvm hw hB hz1 hk1 hS => ?_)
  obtain ⟨hP, hD⟩ := wJn ht hFc hB.1 hB.2.2
  rw [hw] at hP hD
  generalize H1 = H at hP hS ⊢
  exact w_X8_goes_76 C0 hK hA Z (rs_X8_push S z1) x2 x3 hok hZ _ _ hP hD hS _ (lv_sub hl [0, 1, 2] rfl)
def rs_X8_goes_170 (S : St)  : Int32 × St := (((S.1 1043) + 1), S)
def ok_X8_goes_170 (S : St)  : Prop := True
set_option maxHeartbeats 4000000 in
set_option maxRecDepth 100000 in
theorem w_X8_goes_170 {p : Program} {l : Launch} {e : Env} {s : State} {m : MethodId} {args : Array Value} {below : List Frame} {meth : Method} {c : Code} {dC : Nat → ClassId} {dI : Nat → Nat → Nat} {cI cZ : ClassId} {a : Nat → Nat} {A : Nat → Prop} (C0 : Cx p s m args meth c RX8 cX8_goes (some .int) 5 wsX8_goes) (hK : va_K (dC, dI) vwCl (tI cI cZ) s) (hA : ∀ q, s.heap.size ≤ q → A q) (Z : Int32 × St) (S : St)  (hok : ok_X8_goes_170 S) (hZ : rs_X8_goes_170 S = Z) (H : Heap) (locs : List Loc) (hP : va_P (dC, dI) vwCl (mW cI cZ a S) H) (hD : va_D A (mW cI cZ a S)) (hS : va_S A s.heap H locs) (ls : Array Slot) (hl : lv_has ls 5 [(0, .ref (a 0))]) : W p l e rm_X8_goes s m args below meth c H locs 0 0 (MQ below (va_Qi (fun (r : Int32) (u : St) => (r, u) = Z) (mWB dC dI cI cZ a A) A) args s 0 0 A) (F0 m 170 ls []) := by
  obtain ⟨hx, hb, hr, hml, hown, hts, hlocks⟩ := id C0
  rw [ok_X8_goes_170] at hok
  rw [rs_X8_goes_170] at hZ
  refine lv_aload_n hx hb dX8_goes_170 rfl (lv_at hl 0 rfl) ?_
  refine va_get (D := (dC, dI)) (ci := 7) (v := .int (S.1 1043)) (C := RX8) (T := TX8) (N := 35) hx hb hts iX8_goes_X8 hown hK hP 0 rfl rfl 33 (by decide) (hts (.fieldLink RX8 129 "RiskHouseModel" "at" "I") (by decide +kernel)) (fun _ h9 => h9) rfl dX8_goes_171 ?_
  refine lv_iconst (v := 1) hx hb dX8_goes_174 (by decide) ?_
  refine lv_iadd hx hb dX8_goes_175 ?_
  exact W.iret (v := ((S.1 1043) + 1)) hx hb hr (fun t ht hW => ⟨⟨((S.1 1043) + 1), S, rfl, hZ, by rw [ht]; exact hP, va_K.moved hW.alike hK, hD⟩, hS.F ht⟩) hS.2.2 dX8_goes_176 hlocks
def rs_X8_goes_147 (S : St) (x2 : Int32) (x3 : Int32) (z1 : Int32) (z2 : Int32) : Int32 × St := (if x2 = 11 then (if ((S.2 27) (S.1 1042).toNatClampNeg) = 0 then (x3, (sA S 12 z1.toNatClampNeg z2)) else (rs_X8_goes_170 (sA S 12 z1.toNatClampNeg z2))) else (rs_X8_goes_170 (sA S 12 z1.toNatClampNeg z2)))
def ok_X8_goes_147 (S : St) (x2 : Int32) (x3 : Int32) (z1 : Int32) (z2 : Int32) : Prop := ((vp_in z1 4) ∧ (if x2 = 11 then ((vp_in (S.1 1042) 8) ∧ (if ((S.2 27) (S.1 1042).toNatClampNeg) = 0 then True else ok_X8_goes_170 (sA S 12 z1.toNatClampNeg z2))) else ok_X8_goes_170 (sA S 12 z1.toNatClampNeg z2)))
set_option maxHeartbeats 4000000 in
set_option maxRecDepth 100000 in
theorem w_X8_goes_147 {p : Program} {l : Launch} {e : Env} {s : State} {m : MethodId} {args : Array Value} {below : List Frame} {meth : Method} {c : Code} {dC : Nat → ClassId} {dI : Nat → Nat → Nat} {cI cZ : ClassId} {a : Nat → Nat} {A : Nat → Prop} (C0 : Cx p s m args meth c RX8 cX8_goes (some .int) 5 wsX8_goes) (hK : va_K (dC, dI) vwCl (tI cI cZ) s) (hA : ∀ q, s.heap.size ≤ q → A q) (Z : Int32 × St) (S : St) (x2 : Int32) (x3 : Int32) (z1 : Int32) (z2 : Int32) (hok : ok_X8_goes_147 S x2 x3 z1 z2) (hZ : rs_X8_goes_147 S x2 x3 z1 z2 = Z) (H : Heap) (locs : List Loc) (hP : va_P (dC, dI) vwCl (mW cI cZ a S) H) (hD : va_D A (mW cI cZ a S)) (hS : va_S A s.heap H locs) (ls : Array Slot) (hl : lv_has ls 5 [(0, .ref (a 0)), (2, .int x2), (3, .int x3)]) : W p l e rm_X8_goes s m args below meth c H locs 0 0 (MQ below (va_Qi (fun (r : Int32) (u : St) => (r, u) = Z) (mWB dC dI cI cZ a A) A) args s 0 0 A) (F0 m 147 ls [.int z2, .int z1, .ref (a 2)]) := by
  obtain ⟨hx, hb, hr, hml, hown, hts, hlocks⟩ := id C0
  rw [ok_X8_goes_147] at hok
  rw [rs_X8_goes_147] at hZ
  obtain ⟨h_1, hok⟩ := hok
  refine va_iast hx hb hK hP hD hS 2 0 rfl rfl h_1 dX8_goes_147 (fun H locs hP hD hS => ?_)
  have hP : va_P (dC, dI) vwCl (mW cI cZ a (sA S 12 z1.toNatClampNeg z2)) H := hP
  have hD : va_D A (mW cI cZ a (sA S 12 z1.toNatClampNeg z2)) := hD
  refine lv_iload_n hx hb dX8_goes_148 rfl (lv_at hl 1 rfl) ?_
  refine lv_bipush (v := 11) hx hb dX8_goes_149 (by decide) ?_
  refine lv_icmp_ne (tgt := 170) hx hb dX8_goes_151 (by decide) (fun c_2 => ?_) (fun c_2 => ?_)
  · have hok := okF hok c_2
    have hZ := rsF hZ c_2
    exact w_X8_goes_170 C0 hK hA Z (sA S 12 z1.toNatClampNeg z2) hok hZ _ _ hP hD hS _ (lv_sub hl [0] rfl)
  · have hok := okT hok c_2
    have hZ := rsT hZ c_2
    refine lv_aload_n hx hb dX8_goes_154 rfl (lv_at hl 0 rfl) ?_
    refine va_get (D := (dC, dI)) (ci := 7) (v := .ref (a 23)) (C := RX8) (T := TX8) (N := 35) hx hb hts iX8_goes_X8 hown hK hP 0 rfl rfl 31 (by decide) (hts (.fieldLink RX8 81 "RiskHouseModel" "stack" "[I") (by decide +kernel)) (fun _ h9 => h9) rfl dX8_goes_155 ?_
    refine lv_aload_n hx hb dX8_goes_158 rfl (lv_at hl 0 rfl) ?_
    refine va_get (D := (dC, dI)) (ci := 7) (v := .int (S.1 1042)) (C := RX8) (T := TX8) (N := 35) hx hb hts iX8_goes_X8 hown hK hP 0 rfl rfl 32 (by decide) (hts (.fieldLink RX8 119 "RiskHouseModel" "top" "I") (by decide +kernel)) (fun _ h9 => h9) rfl dX8_goes_159 ?_
    obtain ⟨h_3, hok⟩ := hok
    refine va_iald (f := (S.2 27)) hx hb hK hP 23 0 rfl rfl h_3 dX8_goes_162 ?_
    refine lv_if_ne (tgt := 170) hx hb dX8_goes_163 (by decide) (fun c_4 => ?_) (fun c_4 => ?_)
    · have hok := okF hok c_4
      have hZ := rsF hZ c_4
      exact w_X8_goes_170 C0 hK hA Z (sA S 12 z1.toNatClampNeg z2) hok hZ _ _ hP hD hS _ (lv_sub hl [0] rfl)
    · have hok := okT hok c_4
      have hZ := rsT hZ c_4
      refine lv_iload_n hx hb dX8_goes_166 rfl (lv_at hl 2 rfl) ?_
      refine lv_goto (tgt := 176) hx hb dX8_goes_167 (by decide) ?_
      exact W.iret (v := x3) hx hb hr (fun t ht hW => ⟨⟨x3, (sA S 12 z1.toNatClampNeg z2), rfl, hZ, by rw [ht]; exact hP, va_K.moved hW.alike hK, hD⟩, hS.F ht⟩) hS.2.2 dX8_goes_176 hlocks
def rs_X8_goes_90 (S : St) (x2 : Int32) (x3 : Int32) (x4 : Int32) : Int32 × St := (if (S.1 1042) = 0 then ((S.1 1043), (sI S 1045 3)) else (if x2 = 3 then (rs_X8_goes_147 (sI S 1042 ((S.1 1042) - 1)) x2 x3 x4 ((S.2 27) ((S.1 1042) - 1).toNatClampNeg)) else (rs_X8_goes_147 (sI S 1042 ((S.1 1042) - 1)) x2 x3 x4 ((S.2 12) x4.toNatClampNeg))))
def ok_X8_goes_90 (S : St) (x2 : Int32) (x3 : Int32) (x4 : Int32) : Prop := (if (S.1 1042) = 0 then True else (if x2 = 3 then ((vp_in ((S.1 1042) - 1) 8) ∧ ok_X8_goes_147 (sI S 1042 ((S.1 1042) - 1)) x2 x3 x4 ((S.2 27) ((S.1 1042) - 1).toNatClampNeg)) else ((vp_in x4 4) ∧ ok_X8_goes_147 (sI S 1042 ((S.1 1042) - 1)) x2 x3 x4 ((S.2 12) x4.toNatClampNeg))))
set_option maxHeartbeats 4000000 in
set_option maxRecDepth 100000 in
theorem w_X8_goes_90 {p : Program} {l : Launch} {e : Env} {s : State} {m : MethodId} {args : Array Value} {below : List Frame} {meth : Method} {c : Code} {dC : Nat → ClassId} {dI : Nat → Nat → Nat} {cI cZ : ClassId} {a : Nat → Nat} {A : Nat → Prop} (C0 : Cx p s m args meth c RX8 cX8_goes (some .int) 5 wsX8_goes) (hK : va_K (dC, dI) vwCl (tI cI cZ) s) (hA : ∀ q, s.heap.size ≤ q → A q) (Z : Int32 × St) (S : St) (x2 : Int32) (x3 : Int32) (x4 : Int32) (hok : ok_X8_goes_90 S x2 x3 x4) (hZ : rs_X8_goes_90 S x2 x3 x4 = Z) (H : Heap) (locs : List Loc) (hP : va_P (dC, dI) vwCl (mW cI cZ a S) H) (hD : va_D A (mW cI cZ a S)) (hS : va_S A s.heap H locs) (ls : Array Slot) (hl : lv_has ls 5 [(0, .ref (a 0)), (2, .int x2), (3, .int x3), (4, .int x4)]) : W p l e rm_X8_goes s m args below meth c H locs 0 0 (MQ below (va_Qi (fun (r : Int32) (u : St) => (r, u) = Z) (mWB dC dI cI cZ a A) A) args s 0 0 A) (F0 m 90 ls []) := by
  obtain ⟨hx, hb, hr, hml, hown, hts, hlocks⟩ := id C0
  rw [ok_X8_goes_90] at hok
  rw [rs_X8_goes_90] at hZ
  refine lv_aload_n hx hb dX8_goes_90 rfl (lv_at hl 0 rfl) ?_
  refine va_get (D := (dC, dI)) (ci := 7) (v := .int (S.1 1042)) (C := RX8) (T := TX8) (N := 35) hx hb hts iX8_goes_X8 hown hK hP 0 rfl rfl 32 (by decide) (hts (.fieldLink RX8 119 "RiskHouseModel" "top" "I") (by decide +kernel)) (fun _ h9 => h9) rfl dX8_goes_91 ?_
  refine lv_if_ne (tgt := 107) hx hb dX8_goes_94 (by decide) (fun c_1 => ?_) (fun c_1 => ?_)
  · have hok := okF hok c_1
    have hZ := rsF hZ c_1
    refine lv_aload_n hx hb dX8_goes_107 rfl (lv_at hl 0 rfl) ?_
    refine lv_dup hx hb dX8_goes_108 rfl ?_
    refine va_get (D := (dC, dI)) (ci := 7) (v := .int (S.1 1042)) (C := RX8) (T := TX8) (N := 35) hx hb hts iX8_goes_X8 hown hK hP 0 rfl rfl 32 (by decide) (hts (.fieldLink RX8 119 "RiskHouseModel" "top" "I") (by decide +kernel)) (fun _ h9 => h9) rfl dX8_goes_109 ?_
    refine lv_iconst (v := 1) hx hb dX8_goes_112 (by decide) ?_
    refine lv_isub hx hb dX8_goes_113 ?_
    refine va_put (D := (dC, dI)) (ci := 7) (v := .int ((S.1 1042) - 1)) (ty := .int) (C := RX8) (T := TX8) (N := 35) hx hb hts iX8_goes_X8 tyX8 tyX8_ok nmX8 hown hK hP hD hS 0 rfl rfl 32 (by decide) (hts (.fieldLink RX8 119 "RiskHouseModel" "top" "I") (by decide +kernel)) (fun _ h9 => h9) rfl (by decide +kernel) rfl rfl (Nat.le_of_ble_eq_true rfl) dX8_goes_114 (fun H locs hP hD hS => ?_)
    have hP : va_P (dC, dI) vwCl (mW cI cZ a (sI S 1042 ((S.1 1042) - 1))) H := hP
    have hD : va_D A (mW cI cZ a (sI S 1042 ((S.1 1042) - 1))) := hD
    refine lv_aload_n hx hb dX8_goes_117 rfl (lv_at hl 0 rfl) ?_
    refine va_get (D := (dC, dI)) (ci := 7) (v := .ref (a 2)) (C := RX8) (T := TX8) (N := 35) hx hb hts iX8_goes_X8 hown hK hP 0 rfl rfl 3 (by decide) (hts (.fieldLink RX8 13 "RiskHouseModel" "cell" "[I") (by decide +kernel)) (fun _ h9 => h9) rfl dX8_goes_118 ?_
    refine lv_iload hx hb dX8_goes_121 (lv_at hl 3 rfl) ?_
    refine lv_iload_n hx hb dX8_goes_123 rfl (lv_at hl 1 rfl) ?_
    refine lv_iconst (v := 3) hx hb dX8_goes_124 (by decide) ?_
    refine lv_icmp_ne (tgt := 140) hx hb dX8_goes_125 (by decide) (fun c_2 => ?_) (fun c_2 => ?_)
    · have hok := okF hok c_2
      have hZ := rsF hZ c_2
      refine lv_aload_n hx hb dX8_goes_140 rfl (lv_at hl 0 rfl) ?_
      refine va_get (D := (dC, dI)) (ci := 7) (v := .ref (a 2)) (C := RX8) (T := TX8) (N := 35) hx hb hts iX8_goes_X8 hown hK hP 0 rfl rfl 3 (by decide) (hts (.fieldLink RX8 13 "RiskHouseModel" "cell" "[I") (by decide +kernel)) (fun _ h9 => h9) rfl dX8_goes_141 ?_
      refine lv_iload hx hb dX8_goes_144 (lv_at hl 3 rfl) ?_
      obtain ⟨h_3, hok⟩ := hok
      refine va_iald (f := (S.2 12)) hx hb hK hP 2 0 rfl rfl h_3 dX8_goes_146 ?_
      exact w_X8_goes_147 C0 hK hA Z (sI S 1042 ((S.1 1042) - 1)) x2 x3 x4 ((S.2 12) x4.toNatClampNeg) hok hZ _ _ hP hD hS _ (lv_sub hl [0, 1, 2] rfl)
    · have hok := okT hok c_2
      have hZ := rsT hZ c_2
      refine lv_aload_n hx hb dX8_goes_128 rfl (lv_at hl 0 rfl) ?_
      refine va_get (D := (dC, dI)) (ci := 7) (v := .ref (a 23)) (C := RX8) (T := TX8) (N := 35) hx hb hts iX8_goes_X8 hown hK hP 0 rfl rfl 31 (by decide) (hts (.fieldLink RX8 81 "RiskHouseModel" "stack" "[I") (by decide +kernel)) (fun _ h9 => h9) rfl dX8_goes_129 ?_
      refine lv_aload_n hx hb dX8_goes_132 rfl (lv_at hl 0 rfl) ?_
      refine va_get (D := (dC, dI)) (ci := 7) (v := .int ((S.1 1042) - 1)) (C := RX8) (T := TX8) (N := 35) hx hb hts iX8_goes_X8 hown hK hP 0 rfl rfl 32 (by decide) (hts (.fieldLink RX8 119 "RiskHouseModel" "top" "I") (by decide +kernel)) (fun _ h9 => h9) rfl dX8_goes_133 ?_
      obtain ⟨h_4, hok⟩ := hok
      refine va_iald (f := (S.2 27)) hx hb hK hP 23 0 rfl rfl h_4 dX8_goes_136 ?_
      refine lv_goto (tgt := 147) hx hb dX8_goes_137 (by decide) ?_
      exact w_X8_goes_147 C0 hK hA Z (sI S 1042 ((S.1 1042) - 1)) x2 x3 x4 ((S.2 27) ((S.1 1042) - 1).toNatClampNeg) hok hZ _ _ hP hD hS _ (lv_sub hl [0, 1, 2] rfl)
  · have hok := okT hok c_1
    have hZ := rsT hZ c_1
    refine lv_aload_n hx hb dX8_goes_97 rfl (lv_at hl 0 rfl) ?_
    refine lv_iconst (v := 3) hx hb dX8_goes_98 (by decide) ?_
    refine va_put (D := (dC, dI)) (ci := 7) (v := .int 3) (ty := .int) (C := RX8) (T := TX8) (N := 35) hx hb hts iX8_goes_X8 tyX8 tyX8_ok nmX8 hown hK hP hD hS 0 rfl rfl 34 (by decide) (hts (.fieldLink RX8 122 "RiskHouseModel" "why" "I") (by decide +kernel)) (fun _ h9 => h9) rfl (by decide +kernel) rfl rfl (Nat.le_of_ble_eq_true rfl) dX8_goes_99 (fun H locs hP hD hS => ?_)
    have hP : va_P (dC, dI) vwCl (mW cI cZ a (sI S 1045 3)) H := hP
    have hD : va_D A (mW cI cZ a (sI S 1045 3)) := hD
    refine lv_aload_n hx hb dX8_goes_102 rfl (lv_at hl 0 rfl) ?_
    refine va_get (D := (dC, dI)) (ci := 7) (v := .int (S.1 1043)) (C := RX8) (T := TX8) (N := 35) hx hb hts iX8_goes_X8 hown hK hP 0 rfl rfl 33 (by decide) (hts (.fieldLink RX8 129 "RiskHouseModel" "at" "I") (by decide +kernel)) (fun _ h9 => h9) rfl dX8_goes_103 ?_
    exact W.iret (v := (S.1 1043)) hx hb hr (fun t ht hW => ⟨⟨(S.1 1043), (sI S 1045 3), rfl, hZ, by rw [ht]; exact hP, va_K.moved hW.alike hK, hD⟩, hS.F ht⟩) hS.2.2 dX8_goes_106 hlocks
def rs_X8_goes (S : St) (x1 : Int32) : Int32 × St := (if 2 < ((S.2 9) ((16 * x1) + (S.1 1043)).toNatClampNeg) then (if ((S.2 9) ((16 * x1) + (S.1 1043)).toNatClampNeg) = 3 then (rs_X8_goes_90 S ((S.2 9) ((16 * x1) + (S.1 1043)).toNatClampNeg) ((S.2 10) ((16 * x1) + (S.1 1043)).toNatClampNeg) ((S.2 4) x1.toNatClampNeg)) else (if ((S.2 9) ((16 * x1) + (S.1 1043)).toNatClampNeg) = 11 then (rs_X8_goes_90 S ((S.2 9) ((16 * x1) + (S.1 1043)).toNatClampNeg) ((S.2 10) ((16 * x1) + (S.1 1043)).toNatClampNeg) ((S.2 4) x1.toNatClampNeg)) else (if 10 ≤ ((S.2 9) ((16 * x1) + (S.1 1043)).toNatClampNeg) then (rs_X8_goes_188 S ((S.2 9) ((16 * x1) + (S.1 1043)).toNatClampNeg) ((S.2 10) ((16 * x1) + (S.1 1043)).toNatClampNeg)) else (rs_X8_goes_188 (rs_X8_both S ((S.2 9) ((16 * x1) + (S.1 1043)).toNatClampNeg)) ((S.2 9) ((16 * x1) + (S.1 1043)).toNatClampNeg) ((S.2 10) ((16 * x1) + (S.1 1043)).toNatClampNeg))))) else (if ((S.2 9) ((16 * x1) + (S.1 1043)).toNatClampNeg) = 0 then (rs_X8_goes_73 S ((S.2 9) ((16 * x1) + (S.1 1043)).toNatClampNeg) ((S.2 10) ((16 * x1) + (S.1 1043)).toNatClampNeg) ((S.2 10) ((16 * x1) + (S.1 1043)).toNatClampNeg)) else (if ((S.2 9) ((16 * x1) + (S.1 1043)).toNatClampNeg) = 1 then (rs_X8_goes_73 S ((S.2 9) ((16 * x1) + (S.1 1043)).toNatClampNeg) ((S.2 10) ((16 * x1) + (S.1 1043)).toNatClampNeg) ((S.2 1) ((S.2 10) ((16 * x1) + (S.1 1043)).toNatClampNeg).toNatClampNeg)) else (rs_X8_goes_73 S ((S.2 9) ((16 * x1) + (S.1 1043)).toNatClampNeg) ((S.2 10) ((16 * x1) + (S.1 1043)).toNatClampNeg) ((S.2 12) ((S.2 4) x1.toNatClampNeg).toNatClampNeg)))))
def ok_X8_goes (S : St) (x1 : Int32) : Prop := ((vp_in ((16 * x1) + (S.1 1043)) 192) ∧ ((vp_in ((16 * x1) + (S.1 1043)) 192) ∧ ((vp_in x1 12) ∧ (if 2 < ((S.2 9) ((16 * x1) + (S.1 1043)).toNatClampNeg) then (if ((S.2 9) ((16 * x1) + (S.1 1043)).toNatClampNeg) = 3 then ok_X8_goes_90 S ((S.2 9) ((16 * x1) + (S.1 1043)).toNatClampNeg) ((S.2 10) ((16 * x1) + (S.1 1043)).toNatClampNeg) ((S.2 4) x1.toNatClampNeg) else (if ((S.2 9) ((16 * x1) + (S.1 1043)).toNatClampNeg) = 11 then ok_X8_goes_90 S ((S.2 9) ((16 * x1) + (S.1 1043)).toNatClampNeg) ((S.2 10) ((16 * x1) + (S.1 1043)).toNatClampNeg) ((S.2 4) x1.toNatClampNeg) else (if 10 ≤ ((S.2 9) ((16 * x1) + (S.1 1043)).toNatClampNeg) then ok_X8_goes_188 S ((S.2 9) ((16 * x1) + (S.1 1043)).toNatClampNeg) ((S.2 10) ((16 * x1) + (S.1 1043)).toNatClampNeg) else ((ok_X8_both S ((S.2 9) ((16 * x1) + (S.1 1043)).toNatClampNeg)) ∧ ok_X8_goes_188 (rs_X8_both S ((S.2 9) ((16 * x1) + (S.1 1043)).toNatClampNeg)) ((S.2 9) ((16 * x1) + (S.1 1043)).toNatClampNeg) ((S.2 10) ((16 * x1) + (S.1 1043)).toNatClampNeg))))) else (if ((S.2 9) ((16 * x1) + (S.1 1043)).toNatClampNeg) = 0 then ok_X8_goes_73 S ((S.2 9) ((16 * x1) + (S.1 1043)).toNatClampNeg) ((S.2 10) ((16 * x1) + (S.1 1043)).toNatClampNeg) ((S.2 10) ((16 * x1) + (S.1 1043)).toNatClampNeg) else (if ((S.2 9) ((16 * x1) + (S.1 1043)).toNatClampNeg) = 1 then ((vp_in ((S.2 10) ((16 * x1) + (S.1 1043)).toNatClampNeg) 8) ∧ ok_X8_goes_73 S ((S.2 9) ((16 * x1) + (S.1 1043)).toNatClampNeg) ((S.2 10) ((16 * x1) + (S.1 1043)).toNatClampNeg) ((S.2 1) ((S.2 10) ((16 * x1) + (S.1 1043)).toNatClampNeg).toNatClampNeg)) else ((vp_in ((S.2 4) x1.toNatClampNeg) 4) ∧ ok_X8_goes_73 S ((S.2 9) ((16 * x1) + (S.1 1043)).toNatClampNeg) ((S.2 10) ((16 * x1) + (S.1 1043)).toNatClampNeg) ((S.2 12) ((S.2 4) x1.toNatClampNeg).toNatClampNeg))))))))
set_option maxHeartbeats 4000000 in
set_option maxRecDepth 100000 in
theorem w_X8_goes {p : Program} {l : Launch} {e : Env} {s : State} {m : MethodId} {args : Array Value} {below : List Frame} {meth : Method} {c : Code} {dC : Nat → ClassId} {dI : Nat → Nat → Nat} {cI cZ : ClassId} {a : Nat → Nat} {A : Nat → Prop} (C0 : Cx p s m args meth c RX8 cX8_goes (some .int) 5 wsX8_goes) (hK : va_K (dC, dI) vwCl (tI cI cZ) s) (hA : ∀ q, s.heap.size ≤ q → A q) (Z : Int32 × St) (S : St) (x1 : Int32) (hok : ok_X8_goes S x1) (hZ : rs_X8_goes S x1 = Z) (H : Heap) (locs : List Loc) (hP : va_P (dC, dI) vwCl (mW cI cZ a S) H) (hD : va_D A (mW cI cZ a S)) (hS : va_S A s.heap H locs) (ls : Array Slot) (hl : lv_has ls 5 [(0, .ref (a 0)), (1, .int x1)]) : W p l e rm_X8_goes s m args below meth c H locs 0 0 (MQ below (va_Qi (fun (r : Int32) (u : St) => (r, u) = Z) (mWB dC dI cI cZ a A) A) args s 0 0 A) (F0 m 0 ls []) := by
  obtain ⟨hx, hb, hr, hml, hown, hts, hlocks⟩ := id C0
  rw [ok_X8_goes] at hok
  rw [rs_X8_goes] at hZ
  refine lv_aload_n hx hb dX8_goes_0 rfl (lv_at hl 0 rfl) ?_
  refine va_get (D := (dC, dI)) (ci := 7) (v := .ref (a 7)) (C := RX8) (T := TX8) (N := 35) hx hb hts iX8_goes_X8 hown hK hP 0 rfl rfl 9 (by decide) (hts (.fieldLink RX8 29 "RiskHouseModel" "code" "[I") (by decide +kernel)) (fun _ h9 => h9) rfl dX8_goes_1 ?_
  refine lv_bipush (v := 16) hx hb dX8_goes_4 (by decide) ?_
  refine lv_iload_n hx hb dX8_goes_6 rfl (lv_at hl 1 rfl) ?_
  refine lv_imul hx hb dX8_goes_7 ?_
  refine lv_aload_n hx hb dX8_goes_8 rfl (lv_at hl 0 rfl) ?_
  refine va_get (D := (dC, dI)) (ci := 7) (v := .int (S.1 1043)) (C := RX8) (T := TX8) (N := 35) hx hb hts iX8_goes_X8 hown hK hP 0 rfl rfl 33 (by decide) (hts (.fieldLink RX8 129 "RiskHouseModel" "at" "I") (by decide +kernel)) (fun _ h9 => h9) rfl dX8_goes_9 ?_
  refine lv_iadd hx hb dX8_goes_12 ?_
  obtain ⟨h_1, hok⟩ := hok
  refine va_iald (f := (S.2 9)) hx hb hK hP 7 0 rfl rfl h_1 dX8_goes_13 ?_
  refine lv_istore_n (lv' := [(2, .int ((S.2 9) ((16 * x1) + (S.1 1043)).toNatClampNeg)), (0, .ref (a 0)), (1, .int x1)]) hx hb dX8_goes_14 rfl hl (by decide) rfl (fun ls hl => ?_)
  refine lv_aload_n hx hb dX8_goes_15 rfl (lv_at hl 1 rfl) ?_
  refine va_get (D := (dC, dI)) (ci := 7) (v := .ref (a 8)) (C := RX8) (T := TX8) (N := 35) hx hb hts iX8_goes_X8 hown hK hP 0 rfl rfl 10 (by decide) (hts (.fieldLink RX8 32 "RiskHouseModel" "told" "[I") (by decide +kernel)) (fun _ h9 => h9) rfl dX8_goes_16 ?_
  refine lv_bipush (v := 16) hx hb dX8_goes_19 (by decide) ?_
  refine lv_iload_n hx hb dX8_goes_21 rfl (lv_at hl 2 rfl) ?_
  refine lv_imul hx hb dX8_goes_22 ?_
  refine lv_aload_n hx hb dX8_goes_23 rfl (lv_at hl 1 rfl) ?_
  refine va_get (D := (dC, dI)) (ci := 7) (v := .int (S.1 1043)) (C := RX8) (T := TX8) (N := 35) hx hb hts iX8_goes_X8 hown hK hP 0 rfl rfl 33 (by decide) (hts (.fieldLink RX8 129 "RiskHouseModel" "at" "I") (by decide +kernel)) (fun _ h9 => h9) rfl dX8_goes_24 ?_
  refine lv_iadd hx hb dX8_goes_27 ?_
  obtain ⟨h_2, hok⟩ := hok
  refine va_iald (f := (S.2 10)) hx hb hK hP 8 0 rfl rfl h_2 dX8_goes_28 ?_
  refine lv_istore_n (lv' := [(3, .int ((S.2 10) ((16 * x1) + (S.1 1043)).toNatClampNeg)), (2, .int ((S.2 9) ((16 * x1) + (S.1 1043)).toNatClampNeg)), (0, .ref (a 0)), (1, .int x1)]) hx hb dX8_goes_29 rfl hl (by decide) rfl (fun ls hl => ?_)
  refine lv_aload_n hx hb dX8_goes_30 rfl (lv_at hl 2 rfl) ?_
  refine va_get (D := (dC, dI)) (ci := 7) (v := .ref (a 4)) (C := RX8) (T := TX8) (N := 35) hx hb hts iX8_goes_X8 hown hK hP 0 rfl rfl 6 (by decide) (hts (.fieldLink RX8 19 "RiskHouseModel" "editionOf" "[I") (by decide +kernel)) (fun _ h9 => h9) rfl dX8_goes_31 ?_
  refine lv_iload_n hx hb dX8_goes_34 rfl (lv_at hl 3 rfl) ?_
  obtain ⟨h_3, hok⟩ := hok
  refine va_iald (f := (S.2 4)) hx hb hK hP 4 0 rfl rfl h_3 dX8_goes_35 ?_
  refine lv_istore (lv' := [(4, .int ((S.2 4) x1.toNatClampNeg)), (3, .int ((S.2 10) ((16 * x1) + (S.1 1043)).toNatClampNeg)), (2, .int ((S.2 9) ((16 * x1) + (S.1 1043)).toNatClampNeg)), (0, .ref (a 0)), (1, .int x1)]) hx hb dX8_goes_36 hl (by decide) rfl (fun ls hl => ?_)
  refine lv_iload_n hx hb dX8_goes_38 rfl (lv_at hl 2 rfl) ?_
  refine lv_iconst (v := 2) hx hb dX8_goes_39 (by decide) ?_
  refine lv_icmp_gt (tgt := 79) hx hb dX8_goes_40 (by decide) (fun c_4 => ?_) (fun c_4 => ?_)
  · have hok := okT hok c_4
    have hZ := rsT hZ c_4
    refine lv_iload_n hx hb dX8_goes_79 rfl (lv_at hl 2 rfl) ?_
    refine lv_iconst (v := 3) hx hb dX8_goes_80 (by decide) ?_
    refine lv_icmp_eq (tgt := 90) hx hb dX8_goes_81 (by decide) (fun c_5 => ?_) (fun c_5 => ?_)
    · have hok := okT hok c_5
      have hZ := rsT hZ c_5
      exact w_X8_goes_90 C0 hK hA Z S ((S.2 9) ((16 * x1) + (S.1 1043)).toNatClampNeg) ((S.2 10) ((16 * x1) + (S.1 1043)).toNatClampNeg) ((S.2 4) x1.toNatClampNeg) hok hZ _ _ hP hD hS _ (lv_sub hl [3, 2, 1, 0] rfl)
    · have hok := okF hok c_5
      have hZ := rsF hZ c_5
      refine lv_iload_n hx hb dX8_goes_84 rfl (lv_at hl 2 rfl) ?_
      refine lv_bipush (v := 11) hx hb dX8_goes_85 (by decide) ?_
      refine lv_icmp_ne (tgt := 177) hx hb dX8_goes_87 (by decide) (fun c_6 => ?_) (fun c_6 => ?_)
      · have hok := okF hok c_6
        have hZ := rsF hZ c_6
        refine lv_iload_n hx hb dX8_goes_177 rfl (lv_at hl 2 rfl) ?_
        refine lv_bipush (v := 10) hx hb dX8_goes_178 (by decide) ?_
        refine lv_icmp_ge (tgt := 188) hx hb dX8_goes_180 (by decide) (fun c_7 => ?_) (fun c_7 => ?_)
        · have hok := okT hok c_7
          have hZ := rsT hZ c_7
          exact w_X8_goes_188 C0 hK hA Z S ((S.2 9) ((16 * x1) + (S.1 1043)).toNatClampNeg) ((S.2 10) ((16 * x1) + (S.1 1043)).toNatClampNeg) hok hZ _ _ hP hD hS _ (lv_sub hl [3, 2, 1] rfl)
        · have hok := okF hok c_7
          have hZ := rsF hZ c_7
          refine lv_aload_n hx hb dX8_goes_183 rfl (lv_at hl 3 rfl) ?_
          refine lv_iload_n hx hb dX8_goes_184 rfl (lv_at hl 2 rfl) ?_
          obtain ⟨k_8, hok⟩ := hok
          have hFc := wFw (w := mW cI cZ a S) hD hS hA
          refine va_callv (va_runV (As := [.int ((S.2 9) ((16 * x1) + (S.1 1043)).toNatClampNeg)]) (rest := []) ⟨hx, hb, hml, hown, hts⟩ (c_X8_both l dC dI cI cZ a H.size S ((S.2 9) ((16 * x1) + (S.1 1043)).toNatClampNeg) k_8) (cwV 1 hts gX8_goes_X8_both rfl rfl rfl (by decide +kernel) ⟨Nat.le_of_ble_eq_true rfl, Nat.le_of_ble_eq_true rfl⟩) ⟨wBl, va_recv hK hP (ci := 7) (q0 := 0) rfl rfl, fun U hU hW => ⟨rfl, by rw [hU], by rw [hU]; exact hP, va_K.moved hW.alike hK, hD.weaken (fun _ _ _ _ => trivial)⟩⟩ rfl rfl hl.1 rfl (lv_room (Nat.le_of_ble_eq_true rfl)) dX8_goes_185 ⟨Nat.zero_le _, Nat.zero_le _⟩) hS (fun q _ h => hFc q h) hFc (fun u t H1 locs ht hvm hw hB hz1 hk1 hS => ?_)
          obtain ⟨hP, hD⟩ := wJn ht hFc hB.1 hB.2.2
          rw [hw] at hP hD
          generalize H1 = H at hP hS ⊢
          exact w_X8_goes_188 C0 hK hA Z (rs_X8_both S ((S.2 9) ((16 * x1) + (S.1 1043)).toNatClampNeg)) ((S.2 9) ((16 * x1) + (S.1 1043)).toNatClampNeg) ((S.2 10) ((16 * x1) + (S.1 1043)).toNatClampNeg) hok hZ _ _ hP hD hS _ (lv_sub hl [3, 2, 1] rfl)
      · have hok := okT hok c_6
        have hZ := rsT hZ c_6
        exact w_X8_goes_90 C0 hK hA Z S ((S.2 9) ((16 * x1) + (S.1 1043)).toNatClampNeg) ((S.2 10) ((16 * x1) + (S.1 1043)).toNatClampNeg) ((S.2 4) x1.toNatClampNeg) hok hZ _ _ hP hD hS _ (lv_sub hl [3, 2, 1, 0] rfl)
  · have hok := okF hok c_4
    have hZ := rsF hZ c_4
    refine lv_aload_n hx hb dX8_goes_43 rfl (lv_at hl 3 rfl) ?_
    refine lv_iload_n hx hb dX8_goes_44 rfl (lv_at hl 2 rfl) ?_
    refine lv_if_ne (tgt := 52) hx hb dX8_goes_45 (by decide) (fun c_9 => ?_) (fun c_9 => ?_)
    · have hok := okF hok c_9
      have hZ := rsF hZ c_9
      refine lv_iload_n hx hb dX8_goes_52 rfl (lv_at hl 2 rfl) ?_
      refine lv_iconst (v := 1) hx hb dX8_goes_53 (by decide) ?_
      refine lv_icmp_ne (tgt := 66) hx hb dX8_goes_54 (by decide) (fun c_10 => ?_) (fun c_10 => ?_)
      · have hok := okF hok c_10
        have hZ := rsF hZ c_10
        refine lv_aload_n hx hb dX8_goes_66 rfl (lv_at hl 3 rfl) ?_
        refine va_get (D := (dC, dI)) (ci := 7) (v := .ref (a 2)) (C := RX8) (T := TX8) (N := 35) hx hb hts iX8_goes_X8 hown hK hP 0 rfl rfl 3 (by decide) (hts (.fieldLink RX8 13 "RiskHouseModel" "cell" "[I") (by decide +kernel)) (fun _ h9 => h9) rfl dX8_goes_67 ?_
        refine lv_iload hx hb dX8_goes_70 (lv_at hl 0 rfl) ?_
        obtain ⟨h_11, hok⟩ := hok
        refine va_iald (f := (S.2 12)) hx hb hK hP 2 0 rfl rfl h_11 dX8_goes_72 ?_
        exact w_X8_goes_73 C0 hK hA Z S ((S.2 9) ((16 * x1) + (S.1 1043)).toNatClampNeg) ((S.2 10) ((16 * x1) + (S.1 1043)).toNatClampNeg) ((S.2 12) ((S.2 4) x1.toNatClampNeg).toNatClampNeg) hok hZ _ _ hP hD hS _ (lv_sub hl [3, 2, 1] rfl)
      · have hok := okT hok c_10
        have hZ := rsT hZ c_10
        refine lv_aload_n hx hb dX8_goes_57 rfl (lv_at hl 3 rfl) ?_
        refine va_get (D := (dC, dI)) (ci := 7) (v := .ref (a 1)) (C := RX8) (T := TX8) (N := 35) hx hb hts iX8_goes_X8 hown hK hP 0 rfl rfl 2 (by decide) (hts (.fieldLink RX8 7 "RiskHouseModel" "field" "[I") (by decide +kernel)) (fun _ h9 => h9) rfl dX8_goes_58 ?_
        refine lv_iload_n hx hb dX8_goes_61 rfl (lv_at hl 1 rfl) ?_
        obtain ⟨h_12, hok⟩ := hok
        refine va_iald (f := (S.2 1)) hx hb hK hP 1 0 rfl rfl h_12 dX8_goes_62 ?_
        refine lv_goto (tgt := 73) hx hb dX8_goes_63 (by decide) ?_
        exact w_X8_goes_73 C0 hK hA Z S ((S.2 9) ((16 * x1) + (S.1 1043)).toNatClampNeg) ((S.2 10) ((16 * x1) + (S.1 1043)).toNatClampNeg) ((S.2 1) ((S.2 10) ((16 * x1) + (S.1 1043)).toNatClampNeg).toNatClampNeg) hok hZ _ _ hP hD hS _ (lv_sub hl [3, 2, 1] rfl)
    · have hok := okT hok c_9
      have hZ := rsT hZ c_9
      refine lv_iload_n hx hb dX8_goes_48 rfl (lv_at hl 1 rfl) ?_
      refine lv_goto (tgt := 73) hx hb dX8_goes_49 (by decide) ?_
      exact w_X8_goes_73 C0 hK hA Z S ((S.2 9) ((16 * x1) + (S.1 1043)).toNatClampNeg) ((S.2 10) ((16 * x1) + (S.1 1043)).toNatClampNeg) ((S.2 10) ((16 * x1) + (S.1 1043)).toNatClampNeg) hok hZ _ _ hP hD hS _ (lv_sub hl [3, 2, 1] rfl)
set_option maxHeartbeats 4000000 in
set_option maxRecDepth 100000 in
theorem c_X8_goes (l : Launch) (dC : Nat → ClassId) (dI : Nat → Nat → Nat) (cI cZ : ClassId) (a : Nat → Nat) (sz : Nat) (S : St) (x1 : Int32) (hok : ok_X8_goes S x1) : Met l yX8_goes wsX8_goes rm_X8_goes (va_Pc [.ref (a 0), .int x1] (mWP dC dI cI cZ a sz S)) (va_Qi (fun (r : Int32) (u : St) => (r, u) = rs_X8_goes S x1) (mWB dC dI cI cZ a (va_A (mW cI cZ a S) sz)) (va_A (mW cI cZ a S) sz)) 0 0 (va_A (mW cI cZ a S) sz) := by
  refine Met.ofW (cc := cX8_goes) (maxL := 5) (ret := (some .int)) (by decide) rfl ?_
  intro p e s m args below meth c s₁ B hml hv
  obtain ⟨rfl, hsz, hP, hK, hD0⟩ := hv
  subst hsz
  have hD := hD0.self (sz := s.heap.size)
  have hl := lv_entry ([.ref (a 0), .int x1]) (n := 5) (Nat.le_of_ble_eq_true rfl)
  rw [lg_entry_eq]
  generalize (lg_sl ([.ref (a 0), .int x1]) ++ List.replicate (5 - (lg_sl ([.ref (a 0), .int x1])).length) Slot.unset).toArray = ls at hl ⊢
  have hl : lv_has ls 5 [(0, .ref (a 0)), (1, .int x1)] := hl
  exact w_X8_goes ⟨B.exec, B.bytes, B.returns, hml, findClass_of_methodNamed B.named, atoms_spec (ws := wsX8_goes) B.pre, B.notSynchronized⟩ hK (fun q h => Or.inr h) _ S x1 hok rfl _ _ hP hD va_S.rf ls hl
abbrev rm_X8_fails : Room := { frames := 0, cells := 0, slots := 0, locals := 0 }
theorem iX8_fails_X8 : ∀ w ∈ wsX80, w ∈ wsX8_fails := by decide +kernel
def rs_X8_fails_58 (S : St)  : St := (sI S 2001 ((S.1 2001) + 1))
def ok_X8_fails_58 (S : St)  : Prop := True
set_option maxHeartbeats 4000000 in
set_option maxRecDepth 100000 in
theorem w_X8_fails_58 {p : Program} {l : Launch} {e : Env} {s : State} {m : MethodId} {args : Array Value} {below : List Frame} {meth : Method} {c : Code} {dC : Nat → ClassId} {dI : Nat → Nat → Nat} {cI cZ : ClassId} {a : Nat → Nat} {A : Nat → Prop} (C0 : Cx p s m args meth c RX8 cX8_fails none 2 wsX8_fails) (hK : va_K (dC, dI) vwCl (tI cI cZ) s) (hA : ∀ q, s.heap.size ≤ q → A q) (Z : St) (S : St)  (hok : ok_X8_fails_58 S) (hZ : rs_X8_fails_58 S = Z) (H : Heap) (locs : List Loc) (hP : va_P (dC, dI) vwCl (mW cI cZ a S) H) (hD : va_D A (mW cI cZ a S)) (hS : va_S A s.heap H locs) (ls : Array Slot) (hl : lv_has ls 2 [(0, .ref (a 0))]) : W p l e rm_X8_fails s m args below meth c H locs 0 0 (MQ below (va_Qv (fun u : St => u = Z) (mWB dC dI cI cZ a A) A) args s 0 0 A) (F0 m 58 ls []) := by
  obtain ⟨hx, hb, hr, hml, hown, hts, hlocks⟩ := id C0
  rw [ok_X8_fails_58] at hok
  rw [rs_X8_fails_58] at hZ
  refine lv_aload_n hx hb dX8_fails_58 rfl (lv_at hl 0 rfl) ?_
  refine lv_dup hx hb dX8_fails_59 rfl ?_
  refine va_get (D := (dC, dI)) (ci := 7) (v := .int (S.1 2001)) (C := RX8) (T := TX8) (N := 35) hx hb hts iX8_fails_X8 hown hK hP 0 rfl rfl 26 (by decide) (hts (.fieldLink RX8 139 "RiskHouseModel" "failures" "I") (by decide +kernel)) (fun _ h9 => h9) rfl dX8_fails_60 ?_
  refine lv_iconst (v := 1) hx hb dX8_fails_63 (by decide) ?_
  refine lv_iadd hx hb dX8_fails_64 ?_
  refine va_put (D := (dC, dI)) (ci := 7) (v := .int ((S.1 2001) + 1)) (ty := .int) (C := RX8) (T := TX8) (N := 35) hx hb hts iX8_fails_X8 tyX8 tyX8_ok nmX8 hown hK hP hD hS 0 rfl rfl 26 (by decide) (hts (.fieldLink RX8 139 "RiskHouseModel" "failures" "I") (by decide +kernel)) (fun _ h9 => h9) rfl (by decide +kernel) rfl rfl (Nat.le_of_ble_eq_true rfl) dX8_fails_65 (fun H locs hP hD hS => ?_)
  have hP : va_P (dC, dI) vwCl (mW cI cZ a (sI S 2001 ((S.1 2001) + 1))) H := hP
  have hD : va_D A (mW cI cZ a (sI S 2001 ((S.1 2001) + 1))) := hD
  exact W.vret hx hb hr (fun t ht hW => ⟨⟨(sI S 2001 ((S.1 2001) + 1)), rfl, hZ, by rw [ht]; exact hP, va_K.moved hW.alike hK, hD⟩, hS.F ht⟩) hS.2.2 dX8_fails_68 hlocks
def rs_X8_fails_45 (S : St)  : St := (rs_X8_fails_58 (sA S 33 (S.1 2001).toNatClampNeg (S.1 686)))
def ok_X8_fails_45 (S : St)  : Prop := ((vp_in (S.1 2001) 60) ∧ ok_X8_fails_58 (sA S 33 (S.1 2001).toNatClampNeg (S.1 686)))
set_option maxHeartbeats 4000000 in
set_option maxRecDepth 100000 in
theorem w_X8_fails_45 {p : Program} {l : Launch} {e : Env} {s : State} {m : MethodId} {args : Array Value} {below : List Frame} {meth : Method} {c : Code} {dC : Nat → ClassId} {dI : Nat → Nat → Nat} {cI cZ : ClassId} {a : Nat → Nat} {A : Nat → Prop} (C0 : Cx p s m args meth c RX8 cX8_fails none 2 wsX8_fails) (hK : va_K (dC, dI) vwCl (tI cI cZ) s) (hA : ∀ q, s.heap.size ≤ q → A q) (Z : St) (S : St)  (hok : ok_X8_fails_45 S) (hZ : rs_X8_fails_45 S = Z) (H : Heap) (locs : List Loc) (hP : va_P (dC, dI) vwCl (mW cI cZ a S) H) (hD : va_D A (mW cI cZ a S)) (hS : va_S A s.heap H locs) (ls : Array Slot) (hl : lv_has ls 2 [(0, .ref (a 0))]) : W p l e rm_X8_fails s m args below meth c H locs 0 0 (MQ below (va_Qv (fun u : St => u = Z) (mWB dC dI cI cZ a A) A) args s 0 0 A) (F0 m 45 ls []) := by
  obtain ⟨hx, hb, hr, hml, hown, hts, hlocks⟩ := id C0
  rw [ok_X8_fails_45] at hok
  rw [rs_X8_fails_45] at hZ
  refine lv_aload_n hx hb dX8_fails_45 rfl (lv_at hl 0 rfl) ?_
  refine va_get (D := (dC, dI)) (ci := 7) (v := .ref (a 22)) (C := RX8) (T := TX8) (N := 35) hx hb hts iX8_fails_X8 hown hK hP 0 rfl rfl 30 (by decide) (hts (.fieldLink RX8 78 "RiskHouseModel" "failedIn" "[I") (by decide +kernel)) (fun _ h9 => h9) rfl dX8_fails_46 ?_
  refine lv_aload_n hx hb dX8_fails_49 rfl (lv_at hl 0 rfl) ?_
  refine va_get (D := (dC, dI)) (ci := 7) (v := .int (S.1 2001)) (C := RX8) (T := TX8) (N := 35) hx hb hts iX8_fails_X8 hown hK hP 0 rfl rfl 26 (by decide) (hts (.fieldLink RX8 139 "RiskHouseModel" "failures" "I") (by decide +kernel)) (fun _ h9 => h9) rfl dX8_fails_50 ?_
  refine lv_aload_n hx hb dX8_fails_53 rfl (lv_at hl 0 rfl) ?_
  refine va_get (D := (dC, dI)) (ci := 7) (v := .int (S.1 686)) (C := RX8) (T := TX8) (N := 35) hx hb hts iX8_fails_X8 hown hK hP 0 rfl rfl 19 (by decide) (hts (.fieldLink RX8 142 "RiskHouseModel" "cases" "I") (by decide +kernel)) (fun _ h9 => h9) rfl dX8_fails_54 ?_
  obtain ⟨h_1, hok⟩ := hok
  refine va_iast hx hb hK hP hD hS 22 0 rfl rfl h_1 dX8_fails_57 (fun H locs hP hD hS => ?_)
  have hP : va_P (dC, dI) vwCl (mW cI cZ a (sA S 33 (S.1 2001).toNatClampNeg (S.1 686))) H := hP
  have hD : va_D A (mW cI cZ a (sA S 33 (S.1 2001).toNatClampNeg (S.1 686))) := hD
  exact w_X8_fails_58 C0 hK hA Z (sA S 33 (S.1 2001).toNatClampNeg (S.1 686)) hok hZ _ _ hP hD hS _ (lv_sub hl [0] rfl)
def rs_X8_fails_32 (S : St)  : St := (rs_X8_fails_45 (sA S 32 (S.1 2001).toNatClampNeg (S.1 1043)))
def ok_X8_fails_32 (S : St)  : Prop := ((vp_in (S.1 2001) 60) ∧ ok_X8_fails_45 (sA S 32 (S.1 2001).toNatClampNeg (S.1 1043)))
set_option maxHeartbeats 4000000 in
set_option maxRecDepth 100000 in
theorem w_X8_fails_32 {p : Program} {l : Launch} {e : Env} {s : State} {m : MethodId} {args : Array Value} {below : List Frame} {meth : Method} {c : Code} {dC : Nat → ClassId} {dI : Nat → Nat → Nat} {cI cZ : ClassId} {a : Nat → Nat} {A : Nat → Prop} (C0 : Cx p s m args meth c RX8 cX8_fails none 2 wsX8_fails) (hK : va_K (dC, dI) vwCl (tI cI cZ) s) (hA : ∀ q, s.heap.size ≤ q → A q) (Z : St) (S : St)  (hok : ok_X8_fails_32 S) (hZ : rs_X8_fails_32 S = Z) (H : Heap) (locs : List Loc) (hP : va_P (dC, dI) vwCl (mW cI cZ a S) H) (hD : va_D A (mW cI cZ a S)) (hS : va_S A s.heap H locs) (ls : Array Slot) (hl : lv_has ls 2 [(0, .ref (a 0))]) : W p l e rm_X8_fails s m args below meth c H locs 0 0 (MQ below (va_Qv (fun u : St => u = Z) (mWB dC dI cI cZ a A) A) args s 0 0 A) (F0 m 32 ls []) := by
  obtain ⟨hx, hb, hr, hml, hown, hts, hlocks⟩ := id C0
  rw [ok_X8_fails_32] at hok
  rw [rs_X8_fails_32] at hZ
  refine lv_aload_n hx hb dX8_fails_32 rfl (lv_at hl 0 rfl) ?_
  refine va_get (D := (dC, dI)) (ci := 7) (v := .ref (a 21)) (C := RX8) (T := TX8) (N := 35) hx hb hts iX8_fails_X8 hown hK hP 0 rfl rfl 29 (by decide) (hts (.fieldLink RX8 75 "RiskHouseModel" "failedAt" "[I") (by decide +kernel)) (fun _ h9 => h9) rfl dX8_fails_33 ?_
  refine lv_aload_n hx hb dX8_fails_36 rfl (lv_at hl 0 rfl) ?_
  refine va_get (D := (dC, dI)) (ci := 7) (v := .int (S.1 2001)) (C := RX8) (T := TX8) (N := 35) hx hb hts iX8_fails_X8 hown hK hP 0 rfl rfl 26 (by decide) (hts (.fieldLink RX8 139 "RiskHouseModel" "failures" "I") (by decide +kernel)) (fun _ h9 => h9) rfl dX8_fails_37 ?_
  refine lv_aload_n hx hb dX8_fails_40 rfl (lv_at hl 0 rfl) ?_
  refine va_get (D := (dC, dI)) (ci := 7) (v := .int (S.1 1043)) (C := RX8) (T := TX8) (N := 35) hx hb hts iX8_fails_X8 hown hK hP 0 rfl rfl 33 (by decide) (hts (.fieldLink RX8 129 "RiskHouseModel" "at" "I") (by decide +kernel)) (fun _ h9 => h9) rfl dX8_fails_41 ?_
  obtain ⟨h_1, hok⟩ := hok
  refine va_iast hx hb hK hP hD hS 21 0 rfl rfl h_1 dX8_fails_44 (fun H locs hP hD hS => ?_)
  have hP : va_P (dC, dI) vwCl (mW cI cZ a (sA S 32 (S.1 2001).toNatClampNeg (S.1 1043))) H := hP
  have hD : va_D A (mW cI cZ a (sA S 32 (S.1 2001).toNatClampNeg (S.1 1043))) := hD
  exact w_X8_fails_45 C0 hK hA Z (sA S 32 (S.1 2001).toNatClampNeg (S.1 1043)) hok hZ _ _ hP hD hS _ (lv_sub hl [0] rfl)
def rs_X8_fails_19 (S : St)  : St := (rs_X8_fails_32 (sA S 31 (S.1 2001).toNatClampNeg (S.1 1045)))
def ok_X8_fails_19 (S : St)  : Prop := ((vp_in (S.1 2001) 60) ∧ ok_X8_fails_32 (sA S 31 (S.1 2001).toNatClampNeg (S.1 1045)))
set_option maxHeartbeats 4000000 in
set_option maxRecDepth 100000 in
theorem w_X8_fails_19 {p : Program} {l : Launch} {e : Env} {s : State} {m : MethodId} {args : Array Value} {below : List Frame} {meth : Method} {c : Code} {dC : Nat → ClassId} {dI : Nat → Nat → Nat} {cI cZ : ClassId} {a : Nat → Nat} {A : Nat → Prop} (C0 : Cx p s m args meth c RX8 cX8_fails none 2 wsX8_fails) (hK : va_K (dC, dI) vwCl (tI cI cZ) s) (hA : ∀ q, s.heap.size ≤ q → A q) (Z : St) (S : St)  (hok : ok_X8_fails_19 S) (hZ : rs_X8_fails_19 S = Z) (H : Heap) (locs : List Loc) (hP : va_P (dC, dI) vwCl (mW cI cZ a S) H) (hD : va_D A (mW cI cZ a S)) (hS : va_S A s.heap H locs) (ls : Array Slot) (hl : lv_has ls 2 [(0, .ref (a 0))]) : W p l e rm_X8_fails s m args below meth c H locs 0 0 (MQ below (va_Qv (fun u : St => u = Z) (mWB dC dI cI cZ a A) A) args s 0 0 A) (F0 m 19 ls []) := by
  obtain ⟨hx, hb, hr, hml, hown, hts, hlocks⟩ := id C0
  rw [ok_X8_fails_19] at hok
  rw [rs_X8_fails_19] at hZ
  refine lv_aload_n hx hb dX8_fails_19 rfl (lv_at hl 0 rfl) ?_
  refine va_get (D := (dC, dI)) (ci := 7) (v := .ref (a 20)) (C := RX8) (T := TX8) (N := 35) hx hb hts iX8_fails_X8 hown hK hP 0 rfl rfl 28 (by decide) (hts (.fieldLink RX8 72 "RiskHouseModel" "failedHow" "[I") (by decide +kernel)) (fun _ h9 => h9) rfl dX8_fails_20 ?_
  refine lv_aload_n hx hb dX8_fails_23 rfl (lv_at hl 0 rfl) ?_
  refine va_get (D := (dC, dI)) (ci := 7) (v := .int (S.1 2001)) (C := RX8) (T := TX8) (N := 35) hx hb hts iX8_fails_X8 hown hK hP 0 rfl rfl 26 (by decide) (hts (.fieldLink RX8 139 "RiskHouseModel" "failures" "I") (by decide +kernel)) (fun _ h9 => h9) rfl dX8_fails_24 ?_
  refine lv_aload_n hx hb dX8_fails_27 rfl (lv_at hl 0 rfl) ?_
  refine va_get (D := (dC, dI)) (ci := 7) (v := .int (S.1 1045)) (C := RX8) (T := TX8) (N := 35) hx hb hts iX8_fails_X8 hown hK hP 0 rfl rfl 34 (by decide) (hts (.fieldLink RX8 122 "RiskHouseModel" "why" "I") (by decide +kernel)) (fun _ h9 => h9) rfl dX8_fails_28 ?_
  obtain ⟨h_1, hok⟩ := hok
  refine va_iast hx hb hK hP hD hS 20 0 rfl rfl h_1 dX8_fails_31 (fun H locs hP hD hS => ?_)
  have hP : va_P (dC, dI) vwCl (mW cI cZ a (sA S 31 (S.1 2001).toNatClampNeg (S.1 1045))) H := hP
  have hD : va_D A (mW cI cZ a (sA S 31 (S.1 2001).toNatClampNeg (S.1 1045))) := hD
  exact w_X8_fails_32 C0 hK hA Z (sA S 31 (S.1 2001).toNatClampNeg (S.1 1045)) hok hZ _ _ hP hD hS _ (lv_sub hl [0] rfl)
def rs_X8_fails (S : St) (x1 : Int32) : St := (if 60 ≤ (S.1 2001) then S else (rs_X8_fails_19 (sA S 30 (S.1 2001).toNatClampNeg x1)))
def ok_X8_fails (S : St) (x1 : Int32) : Prop := (if 60 ≤ (S.1 2001) then True else ((vp_in (S.1 2001) 60) ∧ ok_X8_fails_19 (sA S 30 (S.1 2001).toNatClampNeg x1)))
set_option maxHeartbeats 4000000 in
set_option maxRecDepth 100000 in
theorem w_X8_fails {p : Program} {l : Launch} {e : Env} {s : State} {m : MethodId} {args : Array Value} {below : List Frame} {meth : Method} {c : Code} {dC : Nat → ClassId} {dI : Nat → Nat → Nat} {cI cZ : ClassId} {a : Nat → Nat} {A : Nat → Prop} (C0 : Cx p s m args meth c RX8 cX8_fails none 2 wsX8_fails) (hK : va_K (dC, dI) vwCl (tI cI cZ) s) (hA : ∀ q, s.heap.size ≤ q → A q) (Z : St) (S : St) (x1 : Int32) (hok : ok_X8_fails S x1) (hZ : rs_X8_fails S x1 = Z) (H : Heap) (locs : List Loc) (hP : va_P (dC, dI) vwCl (mW cI cZ a S) H) (hD : va_D A (mW cI cZ a S)) (hS : va_S A s.heap H locs) (ls : Array Slot) (hl : lv_has ls 2 [(0, .ref (a 0)), (1, .int x1)]) : W p l e rm_X8_fails s m args below meth c H locs 0 0 (MQ below (va_Qv (fun u : St => u = Z) (mWB dC dI cI cZ a A) A) args s 0 0 A) (F0 m 0 ls []) := by
  obtain ⟨hx, hb, hr, hml, hown, hts, hlocks⟩ := id C0
  rw [ok_X8_fails] at hok
  rw [rs_X8_fails] at hZ
  refine lv_aload_n hx hb dX8_fails_0 rfl (lv_at hl 0 rfl) ?_
  refine va_get (D := (dC, dI)) (ci := 7) (v := .int (S.1 2001)) (C := RX8) (T := TX8) (N := 35) hx hb hts iX8_fails_X8 hown hK hP 0 rfl rfl 26 (by decide) (hts (.fieldLink RX8 139 "RiskHouseModel" "failures" "I") (by decide +kernel)) (fun _ h9 => h9) rfl dX8_fails_1 ?_
  refine lv_bipush (v := 60) hx hb dX8_fails_4 (by decide) ?_
  refine lv_icmp_ge (tgt := 68) hx hb dX8_fails_6 (by decide) (fun c_1 => ?_) (fun c_1 => ?_)
  · have hok := okT hok c_1
    have hZ := rsT hZ c_1
    exact W.vret hx hb hr (fun t ht hW => ⟨⟨S, rfl, hZ, by rw [ht]; exact hP, va_K.moved hW.alike hK, hD⟩, hS.F ht⟩) hS.2.2 dX8_fails_68 hlocks
  · have hok := okF hok c_1
    have hZ := rsF hZ c_1
    refine lv_aload_n hx hb dX8_fails_9 rfl (lv_at hl 0 rfl) ?_
    refine va_get (D := (dC, dI)) (ci := 7) (v := .ref (a 19)) (C := RX8) (T := TX8) (N := 35) hx hb hts iX8_fails_X8 hown hK hP 0 rfl rfl 27 (by decide) (hts (.fieldLink RX8 69 "RiskHouseModel" "failedRule" "[I") (by decide +kernel)) (fun _ h9 => h9) rfl dX8_fails_10 ?_
    refine lv_aload_n hx hb dX8_fails_13 rfl (lv_at hl 0 rfl) ?_
    refine va_get (D := (dC, dI)) (ci := 7) (v := .int (S.1 2001)) (C := RX8) (T := TX8) (N := 35) hx hb hts iX8_fails_X8 hown hK hP 0 rfl rfl 26 (by decide) (hts (.fieldLink RX8 139 "RiskHouseModel" "failures" "I") (by decide +kernel)) (fun _ h9 => h9) rfl dX8_fails_14 ?_
    refine lv_iload_n hx hb dX8_fails_17 rfl (lv_at hl 1 rfl) ?_
    obtain ⟨h_2, hok⟩ := hok
    refine va_iast hx hb hK hP hD hS 19 0 rfl rfl h_2 dX8_fails_18 (fun H locs hP hD hS => ?_)
    have hP : va_P (dC, dI) vwCl (mW cI cZ a (sA S 30 (S.1 2001).toNatClampNeg x1)) H := hP
    have hD : va_D A (mW cI cZ a (sA S 30 (S.1 2001).toNatClampNeg x1)) := hD
    exact w_X8_fails_19 C0 hK hA Z (sA S 30 (S.1 2001).toNatClampNeg x1) hok hZ _ _ hP hD hS _ (lv_sub hl [0] rfl)
set_option maxHeartbeats 4000000 in
set_option maxRecDepth 100000 in
theorem c_X8_fails (l : Launch) (dC : Nat → ClassId) (dI : Nat → Nat → Nat) (cI cZ : ClassId) (a : Nat → Nat) (sz : Nat) (S : St) (x1 : Int32) (hok : ok_X8_fails S x1) : Met l yX8_fails wsX8_fails rm_X8_fails (va_Pc [.ref (a 0), .int x1] (mWP dC dI cI cZ a sz S)) (va_Qv (fun u : St => u = rs_X8_fails S x1) (mWB dC dI cI cZ a (va_A (mW cI cZ a S) sz)) (va_A (mW cI cZ a S) sz)) 0 0 (va_A (mW cI cZ a S) sz) := by
  refine Met.ofW (cc := cX8_fails) (maxL := 2) (ret := none) (by decide) rfl ?_
  intro p e s m args below meth c s₁ B hml hv
  obtain ⟨rfl, hsz, hP, hK, hD0⟩ := hv
  subst hsz
  have hD := hD0.self (sz := s.heap.size)
  have hl := lv_entry ([.ref (a 0), .int x1]) (n := 2) (Nat.le_of_ble_eq_true rfl)
  rw [lg_entry_eq]
  generalize (lg_sl ([.ref (a 0), .int x1]) ++ List.replicate (2 - (lg_sl ([.ref (a 0), .int x1])).length) Slot.unset).toArray = ls at hl ⊢
  have hl : lv_has ls 2 [(0, .ref (a 0)), (1, .int x1)] := hl
  exact w_X8_fails ⟨B.exec, B.bytes, B.returns, hml, findClass_of_methodNamed B.named, atoms_spec (ws := wsX8_fails) B.pre, B.notSynchronized⟩ hK (fun q h => Or.inr h) _ S x1 hok rfl _ _ hP hD va_S.rf ls hl
abbrev rm_X8_runs : Room := { frames := 3, cells := 0, slots := 0, locals := 67 }
theorem iX8_runs_X8 : ∀ w ∈ wsX80, w ∈ wsX8_runs := by decide +kernel
def rs_X8_runs_78 (k : St → Int32 → Int32 → Int32 × St) (S : St) (x1 : Int32) (x2 : Int32) (z1 : Int32) : Int32 × St := (k (sI S 1043 z1) x1 x2)
def ok_X8_runs_78 (kk : St → Int32 → Int32 → Prop) (S : St) (x1 : Int32) (x2 : Int32) (z1 : Int32) : Prop := kk (sI S 1043 z1) x1 x2
set_option maxHeartbeats 4000000 in
set_option maxRecDepth 100000 in
theorem w_X8_runs_78 {p : Program} {l : Launch} {e : Env} {s : State} {m : MethodId} {args : Array Value} {below : List Frame} {meth : Method} {c : Code} {dC : Nat → ClassId} {dI : Nat → Nat → Nat} {cI cZ : ClassId} {a : Nat → Nat} {A : Nat → Prop} (C0 : Cx p s m args meth c RX8 cX8_runs (some .boolean) 4 wsX8_runs) (hK : va_K (dC, dI) vwCl (tI cI cZ) s) (hA : ∀ q, s.heap.size ≤ q → A q) (Z : Int32 × St) (k : St → Int32 → Int32 → Int32 × St) (kk : St → Int32 → Int32 → Prop) (hk : ∀ (S : St) (x1 : Int32) (x2 : Int32) (hok : kk S x1 x2) (hZ : k S x1 x2 = Z) (H : Heap) (locs : List Loc) (hP : va_P (dC, dI) vwCl (mW cI cZ a S) H) (hD : va_D A (mW cI cZ a S)) (hS : va_S A s.heap H locs) (ls : Array Slot) (hl : lv_has ls 4 [(0, .ref (a 0)), (1, .int x1), (2, .int x2)]), W p l e rm_X8_runs s m args below meth c H locs 0 0 (MQ below (va_Qi (fun (r : Int32) (u : St) => (r, u) = Z) (mWB dC dI cI cZ a A) A) args s 0 0 A) (F0 m 17 ls [])) (S : St) (x1 : Int32) (x2 : Int32) (z1 : Int32) (hok : ok_X8_runs_78 kk S x1 x2 z1) (hZ : rs_X8_runs_78 k S x1 x2 z1 = Z) (H : Heap) (locs : List Loc) (hP : va_P (dC, dI) vwCl (mW cI cZ a S) H) (hD : va_D A (mW cI cZ a S)) (hS : va_S A s.heap H locs) (ls : Array Slot) (hl : lv_has ls 4 [(0, .ref (a 0)), (1, .int x1), (2, .int x2)]) : W p l e rm_X8_runs s m args below meth c H locs 0 0 (MQ below (va_Qi (fun (r : Int32) (u : St) => (r, u) = Z) (mWB dC dI cI cZ a A) A) args s 0 0 A) (F0 m 78 ls [.int z1, .ref (a 0)]) := by
  obtain ⟨hx, hb, hr, hml, hown, hts, hlocks⟩ := id C0
  rw [ok_X8_runs_78] at hok
  rw [rs_X8_runs_78] at hZ
  refine va_put (D := (dC, dI)) (ci := 7) (v := .int z1) (ty := .int) (C := RX8) (T := TX8) (N := 35) hx hb hts iX8_runs_X8 tyX8 tyX8_ok nmX8 hown hK hP hD hS 0 rfl rfl 33 (by decide) (hts (.fieldLink RX8 129 "RiskHouseModel" "at" "I") (by decide +kernel)) (fun _ h9 => h9) rfl (by decide +kernel) rfl rfl (Nat.le_of_ble_eq_true rfl) dX8_runs_78 (fun H locs hP hD hS => ?_)
  have hP : va_P (dC, dI) vwCl (mW cI cZ a (sI S 1043 z1)) H := hP
  have hD : va_D A (mW cI cZ a (sI S 1043 z1)) := hD
  refine lv_goto (tgt := 17) hx hb dX8_runs_81 (by decide) ?_
  exact hk (sI S 1043 z1) x1 x2 hok hZ _ _ hP hD hS _ (lv_sub hl [0, 1, 2] rfl)
def rs_X8_runs_61 (k : St → Int32 → Int32 → Int32 × St) (S : St) (x1 : Int32) (x2 : Int32) (z0 : Int32) : Int32 × St := (if (S.1 1045) = 0 then (rs_X8_runs_78 k S x1 x2 z0) else (rs_X8_runs_78 k S x1 x2 (S.1 1043)))
def ok_X8_runs_61 (kk : St → Int32 → Int32 → Prop) (S : St) (x1 : Int32) (x2 : Int32) (z0 : Int32) : Prop := (if (S.1 1045) = 0 then ok_X8_runs_78 kk S x1 x2 z0 else ok_X8_runs_78 kk S x1 x2 (S.1 1043))
set_option maxHeartbeats 4000000 in
set_option maxRecDepth 100000 in
theorem w_X8_runs_61 {p : Program} {l : Launch} {e : Env} {s : State} {m : MethodId} {args : Array Value} {below : List Frame} {meth : Method} {c : Code} {dC : Nat → ClassId} {dI : Nat → Nat → Nat} {cI cZ : ClassId} {a : Nat → Nat} {A : Nat → Prop} (C0 : Cx p s m args meth c RX8 cX8_runs (some .boolean) 4 wsX8_runs) (hK : va_K (dC, dI) vwCl (tI cI cZ) s) (hA : ∀ q, s.heap.size ≤ q → A q) (Z : Int32 × St) (k : St → Int32 → Int32 → Int32 × St) (kk : St → Int32 → Int32 → Prop) (hk : ∀ (S : St) (x1 : Int32) (x2 : Int32) (hok : kk S x1 x2) (hZ : k S x1 x2 = Z) (H : Heap) (locs : List Loc) (hP : va_P (dC, dI) vwCl (mW cI cZ a S) H) (hD : va_D A (mW cI cZ a S)) (hS : va_S A s.heap H locs) (ls : Array Slot) (hl : lv_has ls 4 [(0, .ref (a 0)), (1, .int x1), (2, .int x2)]), W p l e rm_X8_runs s m args below meth c H locs 0 0 (MQ below (va_Qi (fun (r : Int32) (u : St) => (r, u) = Z) (mWB dC dI cI cZ a A) A) args s 0 0 A) (F0 m 17 ls [])) (S : St) (x1 : Int32) (x2 : Int32) (z0 : Int32) (hok : ok_X8_runs_61 kk S x1 x2 z0) (hZ : rs_X8_runs_61 k S x1 x2 z0 = Z) (H : Heap) (locs : List Loc) (hP : va_P (dC, dI) vwCl (mW cI cZ a S) H) (hD : va_D A (mW cI cZ a S)) (hS : va_S A s.heap H locs) (ls : Array Slot) (hl : lv_has ls 4 [(0, .ref (a 0)), (1, .int x1), (2, .int x2)]) : W p l e rm_X8_runs s m args below meth c H locs 0 0 (MQ below (va_Qi (fun (r : Int32) (u : St) => (r, u) = Z) (mWB dC dI cI cZ a A) A) args s 0 0 A) (F0 m 61 ls [.int z0]) := by
  obtain ⟨hx, hb, hr, hml, hown, hts, hlocks⟩ := id C0
  rw [ok_X8_runs_61] at hok
  rw [rs_X8_runs_61] at hZ
  refine lv_istore_n (lv' := [(3, .int z0), (0, .ref (a 0)), (1, .int x1), (2, .int x2)]) hx hb dX8_runs_61 rfl hl (by decide) rfl (fun ls hl => ?_)
  refine lv_aload_n hx hb dX8_runs_62 rfl (lv_at hl 1 rfl) ?_
  refine lv_aload_n hx hb dX8_runs_63 rfl (lv_at hl 1 rfl) ?_
  refine va_get (D := (dC, dI)) (ci := 7) (v := .int (S.1 1045)) (C := RX8) (T := TX8) (N := 35) hx hb hts iX8_runs_X8 hown hK hP 0 rfl rfl 34 (by decide) (hts (.fieldLink RX8 122 "RiskHouseModel" "why" "I") (by decide +kernel)) (fun _ h9 => h9) rfl dX8_runs_64 ?_
  refine lv_if_ne (tgt := 74) hx hb dX8_runs_67 (by decide) (fun c_1 => ?_) (fun c_1 => ?_)
  · have hok := okF hok c_1
    have hZ := rsF hZ c_1
    refine lv_aload_n hx hb dX8_runs_74 rfl (lv_at hl 1 rfl) ?_
    refine va_get (D := (dC, dI)) (ci := 7) (v := .int (S.1 1043)) (C := RX8) (T := TX8) (N := 35) hx hb hts iX8_runs_X8 hown hK hP 0 rfl rfl 33 (by decide) (hts (.fieldLink RX8 129 "RiskHouseModel" "at" "I") (by decide +kernel)) (fun _ h9 => h9) rfl dX8_runs_75 ?_
    exact w_X8_runs_78 C0 hK hA Z k kk hk S x1 x2 (S.1 1043) hok hZ _ _ hP hD hS _ (lv_sub hl [1, 2, 3] rfl)
  · have hok := okT hok c_1
    have hZ := rsT hZ c_1
    refine lv_iload_n hx hb dX8_runs_70 rfl (lv_at hl 0 rfl) ?_
    refine lv_goto (tgt := 78) hx hb dX8_runs_71 (by decide) ?_
    exact w_X8_runs_78 C0 hK hA Z k kk hk S x1 x2 z0 hok hZ _ _ hP hD hS _ (lv_sub hl [1, 2, 3] rfl)
def rs_X8_runs_103 (S : St) (x1 : Int32) : Int32 × St := (0, (sA S 23 (S.1 686).toNatClampNeg (((S.2 23) (S.1 686).toNatClampNeg) ||| (1 <<< (x1 &&& 31)))))
def ok_X8_runs_103 (S : St) (x1 : Int32) : Prop := ((vp_in (S.1 686) 40) ∧ ((vp_in (S.1 686) 40) ∧ True))
set_option maxHeartbeats 4000000 in
set_option maxRecDepth 100000 in
theorem w_X8_runs_103 {p : Program} {l : Launch} {e : Env} {s : State} {m : MethodId} {args : Array Value} {below : List Frame} {meth : Method} {c : Code} {dC : Nat → ClassId} {dI : Nat → Nat → Nat} {cI cZ : ClassId} {a : Nat → Nat} {A : Nat → Prop} (C0 : Cx p s m args meth c RX8 cX8_runs (some .boolean) 4 wsX8_runs) (hK : va_K (dC, dI) vwCl (tI cI cZ) s) (hA : ∀ q, s.heap.size ≤ q → A q) (Z : Int32 × St) (S : St) (x1 : Int32) (hok : ok_X8_runs_103 S x1) (hZ : rs_X8_runs_103 S x1 = Z) (H : Heap) (locs : List Loc) (hP : va_P (dC, dI) vwCl (mW cI cZ a S) H) (hD : va_D A (mW cI cZ a S)) (hS : va_S A s.heap H locs) (ls : Array Slot) (hl : lv_has ls 4 [(0, .ref (a 0)), (1, .int x1)]) : W p l e rm_X8_runs s m args below meth c H locs 0 0 (MQ below (va_Qi (fun (r : Int32) (u : St) => (r, u) = Z) (mWB dC dI cI cZ a A) A) args s 0 0 A) (F0 m 103 ls []) := by
  obtain ⟨hx, hb, hr, hml, hown, hts, hlocks⟩ := id C0
  rw [ok_X8_runs_103] at hok
  rw [rs_X8_runs_103] at hZ
  refine lv_aload_n hx hb dX8_runs_103 rfl (lv_at hl 0 rfl) ?_
  refine va_get (D := (dC, dI)) (ci := 7) (v := .ref (a 18)) (C := RX8) (T := TX8) (N := 35) hx hb hts iX8_runs_X8 hown hK hP 0 rfl rfl 25 (by decide) (hts (.fieldLink RX8 66 "RiskHouseModel" "badRules" "[I") (by decide +kernel)) (fun _ h9 => h9) rfl dX8_runs_104 ?_
  refine lv_aload_n hx hb dX8_runs_107 rfl (lv_at hl 0 rfl) ?_
  refine va_get (D := (dC, dI)) (ci := 7) (v := .int (S.1 686)) (C := RX8) (T := TX8) (N := 35) hx hb hts iX8_runs_X8 hown hK hP 0 rfl rfl 19 (by decide) (hts (.fieldLink RX8 142 "RiskHouseModel" "cases" "I") (by decide +kernel)) (fun _ h9 => h9) rfl dX8_runs_108 ?_
  refine lv_dup2_11 hx hb dX8_runs_111 rfl rfl ?_
  obtain ⟨h_1, hok⟩ := hok
  refine va_iald (f := (S.2 23)) hx hb hK hP 18 0 rfl rfl h_1 dX8_runs_112 ?_
  refine lv_iconst (v := 1) hx hb dX8_runs_113 (by decide) ?_
  refine lv_iload_n hx hb dX8_runs_114 rfl (lv_at hl 1 rfl) ?_
  refine lv_ishl hx hb dX8_runs_115 ?_
  refine lv_ior hx hb dX8_runs_116 ?_
  obtain ⟨h_2, hok⟩ := hok
  refine va_iast hx hb hK hP hD hS 18 0 rfl rfl h_2 dX8_runs_117 (fun H locs hP hD hS => ?_)
  have hP : va_P (dC, dI) vwCl (mW cI cZ a (sA S 23 (S.1 686).toNatClampNeg (((S.2 23) (S.1 686).toNatClampNeg) ||| (1 <<< (x1 &&& 31))))) H := hP
  have hD : va_D A (mW cI cZ a (sA S 23 (S.1 686).toNatClampNeg (((S.2 23) (S.1 686).toNatClampNeg) ||| (1 <<< (x1 &&& 31))))) := hD
  refine lv_iconst (v := 0) hx hb dX8_runs_118 (by decide) ?_
  exact W.zret (v := 0) hx hb hr rfl (fun t ht hW => ⟨⟨0, (sA S 23 (S.1 686).toNatClampNeg (((S.2 23) (S.1 686).toNatClampNeg) ||| (1 <<< (x1 &&& 31)))), rfl, hZ, by rw [ht]; exact hP, va_K.moved hW.alike hK, hD⟩, hS.F ht⟩) hS.2.2 dX8_runs_119 hlocks
def rs_X8_runs_147 (S : St) (z1 : Int32) (z2 : Int32) : Int32 × St := (1, (sA S 7 z1.toNatClampNeg z2))
def ok_X8_runs_147 (S : St) (z1 : Int32) (z2 : Int32) : Prop := ((vp_in z1 12) ∧ True)
set_option maxHeartbeats 4000000 in
set_option maxRecDepth 100000 in
theorem w_X8_runs_147 {p : Program} {l : Launch} {e : Env} {s : State} {m : MethodId} {args : Array Value} {below : List Frame} {meth : Method} {c : Code} {dC : Nat → ClassId} {dI : Nat → Nat → Nat} {cI cZ : ClassId} {a : Nat → Nat} {A : Nat → Prop} (C0 : Cx p s m args meth c RX8 cX8_runs (some .boolean) 4 wsX8_runs) (hK : va_K (dC, dI) vwCl (tI cI cZ) s) (hA : ∀ q, s.heap.size ≤ q → A q) (Z : Int32 × St) (S : St) (z1 : Int32) (z2 : Int32) (hok : ok_X8_runs_147 S z1 z2) (hZ : rs_X8_runs_147 S z1 z2 = Z) (H : Heap) (locs : List Loc) (hP : va_P (dC, dI) vwCl (mW cI cZ a S) H) (hD : va_D A (mW cI cZ a S)) (hS : va_S A s.heap H locs) (ls : Array Slot) (hl : lv_has ls 4 []) : W p l e rm_X8_runs s m args below meth c H locs 0 0 (MQ below (va_Qi (fun (r : Int32) (u : St) => (r, u) = Z) (mWB dC dI cI cZ a A) A) args s 0 0 A) (F0 m 147 ls [.int z2, .int z1, .ref (a 9)]) := by
  obtain ⟨hx, hb, hr, hml, hown, hts, hlocks⟩ := id C0
  rw [ok_X8_runs_147] at hok
  rw [rs_X8_runs_147] at hZ
  obtain ⟨h_1, hok⟩ := hok
  refine va_iast hx hb hK hP hD hS 9 0 rfl rfl h_1 dX8_runs_147 (fun H locs hP hD hS => ?_)
  have hP : va_P (dC, dI) vwCl (mW cI cZ a (sA S 7 z1.toNatClampNeg z2)) H := hP
  have hD : va_D A (mW cI cZ a (sA S 7 z1.toNatClampNeg z2)) := hD
  refine lv_iconst (v := 1) hx hb dX8_runs_148 (by decide) ?_
  exact W.zret (v := 1) hx hb hr rfl (fun t ht hW => ⟨⟨1, (sA S 7 z1.toNatClampNeg z2), rfl, hZ, by rw [ht]; exact hP, va_K.moved hW.alike hK, hD⟩, hS.F ht⟩) hS.2.2 dX8_runs_149 hlocks
def rs_X8_runs_84 (S : St) (x1 : Int32) (x2 : Int32) : Int32 × St := (if (S.1 1045) ≤ 0 then (if (S.1 1042) ≤ 0 then (rs_X8_runs_147 (sA S 8 x1.toNatClampNeg x2) x1 0) else (rs_X8_runs_147 (sA S 8 x1.toNatClampNeg x2) x1 ((S.2 27) ((S.1 1042) - 1).toNatClampNeg))) else (rs_X8_runs_103 (rs_X8_fails (sA S 8 x1.toNatClampNeg x2) x1) x1))
def ok_X8_runs_84 (S : St) (x1 : Int32) (x2 : Int32) : Prop := ((vp_in x1 12) ∧ (if (S.1 1045) ≤ 0 then (if (S.1 1042) ≤ 0 then ok_X8_runs_147 (sA S 8 x1.toNatClampNeg x2) x1 0 else ((vp_in ((S.1 1042) - 1) 8) ∧ ok_X8_runs_147 (sA S 8 x1.toNatClampNeg x2) x1 ((S.2 27) ((S.1 1042) - 1).toNatClampNeg))) else ((ok_X8_fails (sA S 8 x1.toNatClampNeg x2) x1) ∧ ok_X8_runs_103 (rs_X8_fails (sA S 8 x1.toNatClampNeg x2) x1) x1)))
set_option maxHeartbeats 4000000 in
set_option maxRecDepth 100000 in
theorem w_X8_runs_84 {p : Program} {l : Launch} {e : Env} {s : State} {m : MethodId} {args : Array Value} {below : List Frame} {meth : Method} {c : Code} {dC : Nat → ClassId} {dI : Nat → Nat → Nat} {cI cZ : ClassId} {a : Nat → Nat} {A : Nat → Prop} (C0 : Cx p s m args meth c RX8 cX8_runs (some .boolean) 4 wsX8_runs) (hK : va_K (dC, dI) vwCl (tI cI cZ) s) (hA : ∀ q, s.heap.size ≤ q → A q) (Z : Int32 × St) (S : St) (x1 : Int32) (x2 : Int32) (hok : ok_X8_runs_84 S x1 x2) (hZ : rs_X8_runs_84 S x1 x2 = Z) (H : Heap) (locs : List Loc) (hP : va_P (dC, dI) vwCl (mW cI cZ a S) H) (hD : va_D A (mW cI cZ a S)) (hS : va_S A s.heap H locs) (ls : Array Slot) (hl : lv_has ls 4 [(0, .ref (a 0)), (1, .int x1), (2, .int x2)]) : W p l e rm_X8_runs s m args below meth c H locs 0 0 (MQ below (va_Qi (fun (r : Int32) (u : St) => (r, u) = Z) (mWB dC dI cI cZ a A) A) args s 0 0 A) (F0 m 84 ls []) := by
  obtain ⟨hx, hb, hr, hml, hown, hts, hlocks⟩ := id C0
  rw [ok_X8_runs_84] at hok
  rw [rs_X8_runs_84] at hZ
  refine lv_aload_n hx hb dX8_runs_84 rfl (lv_at hl 0 rfl) ?_
  refine va_get (D := (dC, dI)) (ci := 7) (v := .ref (a 10)) (C := RX8) (T := TX8) (N := 35) hx hb hts iX8_runs_X8 hown hK hP 0 rfl rfl 12 (by decide) (hts (.fieldLink RX8 38 "RiskHouseModel" "steps" "[I") (by decide +kernel)) (fun _ h9 => h9) rfl dX8_runs_85 ?_
  refine lv_iload_n hx hb dX8_runs_88 rfl (lv_at hl 1 rfl) ?_
  refine lv_iload_n hx hb dX8_runs_89 rfl (lv_at hl 2 rfl) ?_
  obtain ⟨h_1, hok⟩ := hok
  refine va_iast hx hb hK hP hD hS 10 0 rfl rfl h_1 dX8_runs_90 (fun H locs hP hD hS => ?_)
  have hP : va_P (dC, dI) vwCl (mW cI cZ a (sA S 8 x1.toNatClampNeg x2)) H := hP
  have hD : va_D A (mW cI cZ a (sA S 8 x1.toNatClampNeg x2)) := hD
  refine lv_aload_n hx hb dX8_runs_91 rfl (lv_at hl 0 rfl) ?_
  refine va_get (D := (dC, dI)) (ci := 7) (v := .int (S.1 1045)) (C := RX8) (T := TX8) (N := 35) hx hb hts iX8_runs_X8 hown hK hP 0 rfl rfl 34 (by decide) (hts (.fieldLink RX8 122 "RiskHouseModel" "why" "I") (by decide +kernel)) (fun _ h9 => h9) rfl dX8_runs_92 ?_
  refine lv_if_le (tgt := 120) hx hb dX8_runs_95 (by decide) (fun c_2 => ?_) (fun c_2 => ?_)
  · have hok := okT hok c_2
    have hZ := rsT hZ c_2
    refine lv_aload_n hx hb dX8_runs_120 rfl (lv_at hl 0 rfl) ?_
    refine va_get (D := (dC, dI)) (ci := 7) (v := .ref (a 9)) (C := RX8) (T := TX8) (N := 35) hx hb hts iX8_runs_X8 hown hK hP 0 rfl rfl 11 (by decide) (hts (.fieldLink RX8 35 "RiskHouseModel" "value" "[I") (by decide +kernel)) (fun _ h9 => h9) rfl dX8_runs_121 ?_
    refine lv_iload_n hx hb dX8_runs_124 rfl (lv_at hl 1 rfl) ?_
    refine lv_aload_n hx hb dX8_runs_125 rfl (lv_at hl 0 rfl) ?_
    refine va_get (D := (dC, dI)) (ci := 7) (v := .int (S.1 1042)) (C := RX8) (T := TX8) (N := 35) hx hb hts iX8_runs_X8 hown hK hP 0 rfl rfl 32 (by decide) (hts (.fieldLink RX8 119 "RiskHouseModel" "top" "I") (by decide +kernel)) (fun _ h9 => h9) rfl dX8_runs_126 ?_
    refine lv_if_le (tgt := 146) hx hb dX8_runs_129 (by decide) (fun c_3 => ?_) (fun c_3 => ?_)
    · have hok := okT hok c_3
      have hZ := rsT hZ c_3
      refine lv_iconst (v := 0) hx hb dX8_runs_146 (by decide) ?_
      exact w_X8_runs_147 C0 hK hA Z (sA S 8 x1.toNatClampNeg x2) x1 0 hok hZ _ _ hP hD hS _ (lv_sub hl [] rfl)
    · have hok := okF hok c_3
      have hZ := rsF hZ c_3
      refine lv_aload_n hx hb dX8_runs_132 rfl (lv_at hl 0 rfl) ?_
      refine va_get (D := (dC, dI)) (ci := 7) (v := .ref (a 23)) (C := RX8) (T := TX8) (N := 35) hx hb hts iX8_runs_X8 hown hK hP 0 rfl rfl 31 (by decide) (hts (.fieldLink RX8 81 "RiskHouseModel" "stack" "[I") (by decide +kernel)) (fun _ h9 => h9) rfl dX8_runs_133 ?_
      refine lv_aload_n hx hb dX8_runs_136 rfl (lv_at hl 0 rfl) ?_
      refine va_get (D := (dC, dI)) (ci := 7) (v := .int (S.1 1042)) (C := RX8) (T := TX8) (N := 35) hx hb hts iX8_runs_X8 hown hK hP 0 rfl rfl 32 (by decide) (hts (.fieldLink RX8 119 "RiskHouseModel" "top" "I") (by decide +kernel)) (fun _ h9 => h9) rfl dX8_runs_137 ?_
      refine lv_iconst (v := 1) hx hb dX8_runs_140 (by decide) ?_
      refine lv_isub hx hb dX8_runs_141 ?_
      obtain ⟨h_4, hok⟩ := hok
      refine va_iald (f := (S.2 27)) hx hb hK hP 23 0 rfl rfl h_4 dX8_runs_142 ?_
      refine lv_goto (tgt := 147) hx hb dX8_runs_143 (by decide) ?_
      exact w_X8_runs_147 C0 hK hA Z (sA S 8 x1.toNatClampNeg x2) x1 ((S.2 27) ((S.1 1042) - 1).toNatClampNeg) hok hZ _ _ hP hD hS _ (lv_sub hl [] rfl)
  · have hok := okF hok c_2
    have hZ := rsF hZ c_2
    refine lv_aload_n hx hb dX8_runs_98 rfl (lv_at hl 0 rfl) ?_
    refine lv_iload_n hx hb dX8_runs_99 rfl (lv_at hl 1 rfl) ?_
    obtain ⟨k_5, hok⟩ := hok
    have hFc := wFw (w := mW cI cZ a (sA S 8 x1.toNatClampNeg x2)) hD hS hA
    refine va_callv (va_runV (As := [.int x1]) (rest := []) ⟨hx, hb, hml, hown, hts⟩ (c_X8_fails l dC dI cI cZ a H.size (sA S 8 x1.toNatClampNeg x2) x1 k_5) (cwV 1 hts gX8_runs_X8_fails rfl rfl rfl (by decide +kernel) ⟨Nat.le_of_ble_eq_true rfl, Nat.le_of_ble_eq_true rfl⟩) ⟨wBl, va_recv hK hP (ci := 7) (q0 := 0) rfl rfl, fun U hU hW => ⟨rfl, by rw [hU], by rw [hU]; exact hP, va_K.moved hW.alike hK, hD.weaken (fun _ _ _ _ => trivial)⟩⟩ rfl rfl hl.1 rfl (lv_room (Nat.le_of_ble_eq_true rfl)) dX8_runs_100 ⟨Nat.zero_le _, Nat.zero_le _⟩) hS (fun q _ h => hFc q h) hFc (fun u t H1 locs ht hvm hw hB hz1 hk1 hS => ?_)
    obtain ⟨hP, hD⟩ := wJn ht hFc hB.1 hB.2.2
    rw [hw] at hP hD
    generalize H1 = H at hP hS ⊢
    exact w_X8_runs_103 C0 hK hA Z (rs_X8_fails (sA S 8 x1.toNatClampNeg x2) x1) x1 hok hZ _ _ hP hD hS _ (lv_sub hl [0, 1] rfl)
def rs_X8_runs_17 : Nat → St → Int32 → Int32 → Int32 × St
  | 0, S, x1, x2 => (0, S)
  | n + 1, S, x1, x2 => (if (S.1 1045) = 0 then (if ((S.2 6) x1.toNatClampNeg) ≤ (S.1 1043) then (rs_X8_runs_84 S x1 x2) else (if x2 = (S.1 1040) then (rs_X8_runs_17 n (sI S 1045 1) x1 x2) else (rs_X8_runs_61 (rs_X8_runs_17 n) (rs_X8_goes S x1).2 x1 (x2 + 1) ((rs_X8_goes S x1).1)))) else (rs_X8_runs_84 S x1 x2))
def ok_X8_runs_17 : Nat → St → Int32 → Int32 → Prop
  | 0, _, _, _ => False
  | n + 1, S, x1, x2 => (if (S.1 1045) = 0 then ((vp_in x1 12) ∧ (if ((S.2 6) x1.toNatClampNeg) ≤ (S.1 1043) then ok_X8_runs_84 S x1 x2 else (if x2 = (S.1 1040) then ok_X8_runs_17 n (sI S 1045 1) x1 x2 else ((ok_X8_goes S x1) ∧ ok_X8_runs_61 (ok_X8_runs_17 n) (rs_X8_goes S x1).2 x1 (x2 + 1) ((rs_X8_goes S x1).1))))) else ok_X8_runs_84 S x1 x2)
set_option maxHeartbeats 4000000 in
set_option maxRecDepth 100000 in
theorem w_X8_runs_17 {p : Program} {l : Launch} {e : Env} {s : State} {m : MethodId} {args : Array Value} {below : List Frame} {meth : Method} {c : Code} {dC : Nat → ClassId} {dI : Nat → Nat → Nat} {cI cZ : ClassId} {a : Nat → Nat} {A : Nat → Prop} (C0 : Cx p s m args meth c RX8 cX8_runs (some .boolean) 4 wsX8_runs) (hK : va_K (dC, dI) vwCl (tI cI cZ) s) (hA : ∀ q, s.heap.size ≤ q → A q) (Z : Int32 × St) : ∀ (n : Nat) (S : St) (x1 : Int32) (x2 : Int32) (hok : ok_X8_runs_17 n S x1 x2) (hZ : rs_X8_runs_17 n S x1 x2 = Z) (H : Heap) (locs : List Loc) (hP : va_P (dC, dI) vwCl (mW cI cZ a S) H) (hD : va_D A (mW cI cZ a S)) (hS : va_S A s.heap H locs) (ls : Array Slot) (hl : lv_has ls 4 [(0, .ref (a 0)), (1, .int x1), (2, .int x2)]), W p l e rm_X8_runs s m args below meth c H locs 0 0 (MQ below (va_Qi (fun (r : Int32) (u : St) => (r, u) = Z) (mWB dC dI cI cZ a A) A) args s 0 0 A) (F0 m 17 ls []) := by
  obtain ⟨hx, hb, hr, hml, hown, hts, hlocks⟩ := id C0
  intro n
  induction n with
  | zero => intro S x1 x2 hok; exact absurd hok (fun h => h)
  | succ n ih =>
    intro S x1 x2 hok hZ H locs hP hD hS ls hl
    rw [ok_X8_runs_17] at hok
    rw [rs_X8_runs_17] at hZ
    refine lv_aload_n hx hb dX8_runs_17 rfl (lv_at hl 0 rfl) ?_
    refine va_get (D := (dC, dI)) (ci := 7) (v := .int (S.1 1045)) (C := RX8) (T := TX8) (N := 35) hx hb hts iX8_runs_X8 hown hK hP 0 rfl rfl 34 (by decide) (hts (.fieldLink RX8 122 "RiskHouseModel" "why" "I") (by decide +kernel)) (fun _ h9 => h9) rfl dX8_runs_18 ?_
    refine lv_if_ne (tgt := 84) hx hb dX8_runs_21 (by decide) (fun c_1 => ?_) (fun c_1 => ?_)
    · have hok := okF hok c_1
      have hZ := rsF hZ c_1
      exact w_X8_runs_84 C0 hK hA Z S x1 x2 hok hZ _ _ hP hD hS _ (lv_sub hl [0, 1, 2] rfl)
    · have hok := okT hok c_1
      have hZ := rsT hZ c_1
      refine lv_aload_n hx hb dX8_runs_24 rfl (lv_at hl 0 rfl) ?_
      refine va_get (D := (dC, dI)) (ci := 7) (v := .int (S.1 1043)) (C := RX8) (T := TX8) (N := 35) hx hb hts iX8_runs_X8 hown hK hP 0 rfl rfl 33 (by decide) (hts (.fieldLink RX8 129 "RiskHouseModel" "at" "I") (by decide +kernel)) (fun _ h9 => h9) rfl dX8_runs_25 ?_
      refine lv_aload_n hx hb dX8_runs_28 rfl (lv_at hl 0 rfl) ?_
      refine va_get (D := (dC, dI)) (ci := 7) (v := .ref (a 6)) (C := RX8) (T := TX8) (N := 35) hx hb hts iX8_runs_X8 hown hK hP 0 rfl rfl 8 (by decide) (hts (.fieldLink RX8 26 "RiskHouseModel" "size" "[I") (by decide +kernel)) (fun _ h9 => h9) rfl dX8_runs_29 ?_
      refine lv_iload_n hx hb dX8_runs_32 rfl (lv_at hl 1 rfl) ?_
      obtain ⟨h_2, hok⟩ := hok
      refine va_iald (f := (S.2 6)) hx hb hK hP 6 0 rfl rfl h_2 dX8_runs_33 ?_
      refine lv_icmp_ge (tgt := 84) hx hb dX8_runs_34 (by decide) (fun c_3 => ?_) (fun c_3 => ?_)
      · have hok := okT hok c_3
        have hZ := rsT hZ c_3
        exact w_X8_runs_84 C0 hK hA Z S x1 x2 hok hZ _ _ hP hD hS _ (lv_sub hl [0, 1, 2] rfl)
      · have hok := okF hok c_3
        have hZ := rsF hZ c_3
        refine lv_iload_n hx hb dX8_runs_37 rfl (lv_at hl 2 rfl) ?_
        refine lv_aload_n hx hb dX8_runs_38 rfl (lv_at hl 0 rfl) ?_
        refine va_get (D := (dC, dI)) (ci := 7) (v := .int (S.1 1040)) (C := RX8) (T := TX8) (N := 35) hx hb hts iX8_runs_X8 hown hK hP 0 rfl rfl 1 (by decide) (hts (.fieldLink RX8 85 "RiskHouseModel" "limit" "I") (by decide +kernel)) (fun _ h9 => h9) rfl dX8_runs_39 ?_
        refine lv_icmp_ne (tgt := 53) hx hb dX8_runs_42 (by decide) (fun c_4 => ?_) (fun c_4 => ?_)
        · have hok := okF hok c_4
          have hZ := rsF hZ c_4
          refine lv_iinc (v := (x2 + 1)) (lv' := [(2, .int (x2 + 1)), (0, .ref (a 0)), (1, .int x1)]) hx hb dX8_runs_53 hl (k := 2) rfl rfl (by decide) rfl (fun ls hl => ?_)
          refine lv_aload_n hx hb dX8_runs_56 rfl (lv_at hl 1 rfl) ?_
          refine lv_iload_n hx hb dX8_runs_57 rfl (lv_at hl 2 rfl) ?_
          obtain ⟨k_5, hok⟩ := hok
          have hFc := wFw (w := mW cI cZ a S) hD hS hA
          refine va_calli (va_runV (As := [.int x1]) (rest := []) ⟨hx, hb, hml, hown, hts⟩ (c_X8_goes l dC dI cI cZ a H.size S x1 k_5) (cwV 1 hts gX8_runs_X8_goes rfl rfl rfl (by decide +kernel) ⟨Nat.le_of_ble_eq_true rfl, Nat.le_of_ble_eq_true rfl⟩) ⟨wBl, va_recv hK hP (ci := 7) (q0 := 0) rfl rfl, fun U hU hW => ⟨rfl, by rw [hU], by rw [hU]; exact hP, va_K.moved hW.alike hK, hD.weaken (fun _ _ _ _ => trivial)⟩⟩ rfl rfl hl.1 rfl (lv_room (Nat.le_of_ble_eq_true rfl)) dX8_runs_58 ⟨Nat.zero_le _, Nat.zero_le _⟩) hS (fun q _ h => hFc q h) hFc (fun r u t H1 locs ht hvm hw hB hz1 hk1 hS => ?_)
          obtain ⟨hP, hD⟩ := wJn ht hFc hB.1 hB.2.2
          have e1 : r = (rs_X8_goes S x1).1 := congrArg Prod.fst hw
          have e2 : u = (rs_X8_goes S x1).2 := congrArg Prod.snd hw
          rw [e1]
          rw [e2] at hP hD
          generalize H1 = H at hP hS ⊢
          exact w_X8_runs_61 C0 hK hA Z (rs_X8_runs_17 n) (ok_X8_runs_17 n) ih (rs_X8_goes S x1).2 x1 (x2 + 1) ((rs_X8_goes S x1).1) hok hZ _ _ hP hD hS _ (lv_sub hl [1, 2, 0] rfl)
        · have hok := okT hok c_4
          have hZ := rsT hZ c_4
          refine lv_aload_n hx hb dX8_runs_45 rfl (lv_at hl 0 rfl) ?_
          refine lv_iconst (v := 1) hx hb dX8_runs_46 (by decide) ?_
          refine va_put (D := (dC, dI)) (ci := 7) (v := .int 1) (ty := .int) (C := RX8) (T := TX8) (N := 35) hx hb hts iX8_runs_X8 tyX8 tyX8_ok nmX8 hown hK hP hD hS 0 rfl rfl 34 (by decide) (hts (.fieldLink RX8 122 "RiskHouseModel" "why" "I") (by decide +kernel)) (fun _ h9 => h9) rfl (by decide +kernel) rfl rfl (Nat.le_of_ble_eq_true rfl) dX8_runs_47 (fun H locs hP hD hS => ?_)
          have hP : va_P (dC, dI) vwCl (mW cI cZ a (sI S 1045 1)) H := hP
          have hD : va_D A (mW cI cZ a (sI S 1045 1)) := hD
          refine lv_goto (tgt := 17) hx hb dX8_runs_50 (by decide) ?_
          exact ih (sI S 1045 1) x1 x2 hok hZ _ _ hP hD hS _ (lv_sub hl [0, 1, 2] rfl)
def rs_X8_runs_10 (S : St) (x1 : Int32) : Int32 × St := (rs_X8_runs_17 66100 (sI S 1045 0) x1 0)
def ok_X8_runs_10 (S : St) (x1 : Int32) : Prop := ok_X8_runs_17 66100 (sI S 1045 0) x1 0
set_option maxHeartbeats 4000000 in
set_option maxRecDepth 100000 in
theorem w_X8_runs_10 {p : Program} {l : Launch} {e : Env} {s : State} {m : MethodId} {args : Array Value} {below : List Frame} {meth : Method} {c : Code} {dC : Nat → ClassId} {dI : Nat → Nat → Nat} {cI cZ : ClassId} {a : Nat → Nat} {A : Nat → Prop} (C0 : Cx p s m args meth c RX8 cX8_runs (some .boolean) 4 wsX8_runs) (hK : va_K (dC, dI) vwCl (tI cI cZ) s) (hA : ∀ q, s.heap.size ≤ q → A q) (Z : Int32 × St) (S : St) (x1 : Int32) (hok : ok_X8_runs_10 S x1) (hZ : rs_X8_runs_10 S x1 = Z) (H : Heap) (locs : List Loc) (hP : va_P (dC, dI) vwCl (mW cI cZ a S) H) (hD : va_D A (mW cI cZ a S)) (hS : va_S A s.heap H locs) (ls : Array Slot) (hl : lv_has ls 4 [(0, .ref (a 0)), (1, .int x1)]) : W p l e rm_X8_runs s m args below meth c H locs 0 0 (MQ below (va_Qi (fun (r : Int32) (u : St) => (r, u) = Z) (mWB dC dI cI cZ a A) A) args s 0 0 A) (F0 m 10 ls []) := by
  obtain ⟨hx, hb, hr, hml, hown, hts, hlocks⟩ := id C0
  rw [ok_X8_runs_10] at hok
  rw [rs_X8_runs_10] at hZ
  refine lv_aload_n hx hb dX8_runs_10 rfl (lv_at hl 0 rfl) ?_
  refine lv_iconst (v := 0) hx hb dX8_runs_11 (by decide) ?_
  refine va_put (D := (dC, dI)) (ci := 7) (v := .int 0) (ty := .int) (C := RX8) (T := TX8) (N := 35) hx hb hts iX8_runs_X8 tyX8 tyX8_ok nmX8 hown hK hP hD hS 0 rfl rfl 34 (by decide) (hts (.fieldLink RX8 122 "RiskHouseModel" "why" "I") (by decide +kernel)) (fun _ h9 => h9) rfl (by decide +kernel) rfl rfl (Nat.le_of_ble_eq_true rfl) dX8_runs_12 (fun H locs hP hD hS => ?_)
  have hP : va_P (dC, dI) vwCl (mW cI cZ a (sI S 1045 0)) H := hP
  have hD : va_D A (mW cI cZ a (sI S 1045 0)) := hD
  refine lv_iconst (v := 0) hx hb dX8_runs_15 (by decide) ?_
  refine lv_istore_n (lv' := [(2, .int 0), (0, .ref (a 0)), (1, .int x1)]) hx hb dX8_runs_16 rfl hl (by decide) rfl (fun ls hl => ?_)
  exact w_X8_runs_17 C0 hK hA Z 66100 (sI S 1045 0) x1 0 hok hZ _ _ hP hD hS _ (lv_sub hl [1, 2, 0] rfl)
def rs_X8_runs_5 (S : St) (x1 : Int32) : Int32 × St := (rs_X8_runs_10 (sI S 1043 0) x1)
def ok_X8_runs_5 (S : St) (x1 : Int32) : Prop := ok_X8_runs_10 (sI S 1043 0) x1
set_option maxHeartbeats 4000000 in
set_option maxRecDepth 100000 in
theorem w_X8_runs_5 {p : Program} {l : Launch} {e : Env} {s : State} {m : MethodId} {args : Array Value} {below : List Frame} {meth : Method} {c : Code} {dC : Nat → ClassId} {dI : Nat → Nat → Nat} {cI cZ : ClassId} {a : Nat → Nat} {A : Nat → Prop} (C0 : Cx p s m args meth c RX8 cX8_runs (some .boolean) 4 wsX8_runs) (hK : va_K (dC, dI) vwCl (tI cI cZ) s) (hA : ∀ q, s.heap.size ≤ q → A q) (Z : Int32 × St) (S : St) (x1 : Int32) (hok : ok_X8_runs_5 S x1) (hZ : rs_X8_runs_5 S x1 = Z) (H : Heap) (locs : List Loc) (hP : va_P (dC, dI) vwCl (mW cI cZ a S) H) (hD : va_D A (mW cI cZ a S)) (hS : va_S A s.heap H locs) (ls : Array Slot) (hl : lv_has ls 4 [(0, .ref (a 0)), (1, .int x1)]) : W p l e rm_X8_runs s m args below meth c H locs 0 0 (MQ below (va_Qi (fun (r : Int32) (u : St) => (r, u) = Z) (mWB dC dI cI cZ a A) A) args s 0 0 A) (F0 m 5 ls []) := by
  obtain ⟨hx, hb, hr, hml, hown, hts, hlocks⟩ := id C0
  rw [ok_X8_runs_5] at hok
  rw [rs_X8_runs_5] at hZ
  refine lv_aload_n hx hb dX8_runs_5 rfl (lv_at hl 0 rfl) ?_
  refine lv_iconst (v := 0) hx hb dX8_runs_6 (by decide) ?_
  refine va_put (D := (dC, dI)) (ci := 7) (v := .int 0) (ty := .int) (C := RX8) (T := TX8) (N := 35) hx hb hts iX8_runs_X8 tyX8 tyX8_ok nmX8 hown hK hP hD hS 0 rfl rfl 33 (by decide) (hts (.fieldLink RX8 129 "RiskHouseModel" "at" "I") (by decide +kernel)) (fun _ h9 => h9) rfl (by decide +kernel) rfl rfl (Nat.le_of_ble_eq_true rfl) dX8_runs_7 (fun H locs hP hD hS => ?_)
  have hP : va_P (dC, dI) vwCl (mW cI cZ a (sI S 1043 0)) H := hP
  have hD : va_D A (mW cI cZ a (sI S 1043 0)) := hD
  exact w_X8_runs_10 C0 hK hA Z (sI S 1043 0) x1 hok hZ _ _ hP hD hS _ (lv_sub hl [0, 1] rfl)
def rs_X8_runs (S : St) (x1 : Int32) : Int32 × St := (rs_X8_runs_5 (sI S 1042 0) x1)
def ok_X8_runs (S : St) (x1 : Int32) : Prop := ok_X8_runs_5 (sI S 1042 0) x1
set_option maxHeartbeats 4000000 in
set_option maxRecDepth 100000 in
theorem w_X8_runs {p : Program} {l : Launch} {e : Env} {s : State} {m : MethodId} {args : Array Value} {below : List Frame} {meth : Method} {c : Code} {dC : Nat → ClassId} {dI : Nat → Nat → Nat} {cI cZ : ClassId} {a : Nat → Nat} {A : Nat → Prop} (C0 : Cx p s m args meth c RX8 cX8_runs (some .boolean) 4 wsX8_runs) (hK : va_K (dC, dI) vwCl (tI cI cZ) s) (hA : ∀ q, s.heap.size ≤ q → A q) (Z : Int32 × St) (S : St) (x1 : Int32) (hok : ok_X8_runs S x1) (hZ : rs_X8_runs S x1 = Z) (H : Heap) (locs : List Loc) (hP : va_P (dC, dI) vwCl (mW cI cZ a S) H) (hD : va_D A (mW cI cZ a S)) (hS : va_S A s.heap H locs) (ls : Array Slot) (hl : lv_has ls 4 [(0, .ref (a 0)), (1, .int x1)]) : W p l e rm_X8_runs s m args below meth c H locs 0 0 (MQ below (va_Qi (fun (r : Int32) (u : St) => (r, u) = Z) (mWB dC dI cI cZ a A) A) args s 0 0 A) (F0 m 0 ls []) := by
  obtain ⟨hx, hb, hr, hml, hown, hts, hlocks⟩ := id C0
  rw [ok_X8_runs] at hok
  rw [rs_X8_runs] at hZ
  refine lv_aload_n hx hb dX8_runs_0 rfl (lv_at hl 0 rfl) ?_
  refine lv_iconst (v := 0) hx hb dX8_runs_1 (by decide) ?_
  refine va_put (D := (dC, dI)) (ci := 7) (v := .int 0) (ty := .int) (C := RX8) (T := TX8) (N := 35) hx hb hts iX8_runs_X8 tyX8 tyX8_ok nmX8 hown hK hP hD hS 0 rfl rfl 32 (by decide) (hts (.fieldLink RX8 119 "RiskHouseModel" "top" "I") (by decide +kernel)) (fun _ h9 => h9) rfl (by decide +kernel) rfl rfl (Nat.le_of_ble_eq_true rfl) dX8_runs_2 (fun H locs hP hD hS => ?_)
  have hP : va_P (dC, dI) vwCl (mW cI cZ a (sI S 1042 0)) H := hP
  have hD : va_D A (mW cI cZ a (sI S 1042 0)) := hD
  exact w_X8_runs_5 C0 hK hA Z (sI S 1042 0) x1 hok hZ _ _ hP hD hS _ (lv_sub hl [0, 1] rfl)
set_option maxHeartbeats 4000000 in
set_option maxRecDepth 100000 in
theorem c_X8_runs (l : Launch) (dC : Nat → ClassId) (dI : Nat → Nat → Nat) (cI cZ : ClassId) (a : Nat → Nat) (sz : Nat) (S : St) (x1 : Int32) (hok : ok_X8_runs S x1) : Met l yX8_runs wsX8_runs rm_X8_runs (va_Pc [.ref (a 0), .int x1] (mWP dC dI cI cZ a sz S)) (va_Qi (fun (r : Int32) (u : St) => (r, u) = rs_X8_runs S x1) (mWB dC dI cI cZ a (va_A (mW cI cZ a S) sz)) (va_A (mW cI cZ a S) sz)) 0 0 (va_A (mW cI cZ a S) sz) := by
  refine Met.ofW (cc := cX8_runs) (maxL := 4) (ret := (some .boolean)) (by decide) rfl ?_
  intro p e s m args below meth c s₁ B hml hv
  obtain ⟨rfl, hsz, hP, hK, hD0⟩ := hv
  subst hsz
  have hD := hD0.self (sz := s.heap.size)
  have hl := lv_entry ([.ref (a 0), .int x1]) (n := 4) (Nat.le_of_ble_eq_true rfl)
  rw [lg_entry_eq]
  generalize (lg_sl ([.ref (a 0), .int x1]) ++ List.replicate (4 - (lg_sl ([.ref (a 0), .int x1])).length) Slot.unset).toArray = ls at hl ⊢
  have hl : lv_has ls 4 [(0, .ref (a 0)), (1, .int x1)] := hl
  exact w_X8_runs ⟨B.exec, B.bytes, B.returns, hml, findClass_of_methodNamed B.named, atoms_spec (ws := wsX8_runs) B.pre, B.notSynchronized⟩ hK (fun q h => Or.inr h) _ S x1 hok rfl _ _ hP hD va_S.rf ls hl
