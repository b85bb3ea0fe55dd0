abbrev rm_X7_isBelow : Room := { frames := 0, cells := 0, slots := 0, locals := 0 }
def rs_X7_isBelow_13  : Int32 := 0
def ok_X7_isBelow_13  : Prop := True
set_option maxHeartbeats 4000000 in
set_option maxRecDepth 100000 in
theorem w_X7_isBelow_13 {p : Program} {l : Launch} {e : Env} {s : State} {m : MethodId} {args : Array Value} {below : List Frame} {meth : Method} {c : Code} {A : Nat → Prop} (C0 : Cx p s m args meth c RX7 cX7_isBelow (some .boolean) 2 wsX7_isBelow) (hA : ∀ q, s.heap.size ≤ q → A q) (Z : Int32)  (hok : ok_X7_isBelow_13) (hZ : rs_X7_isBelow_13 = Z) (H : Heap) (locs : List Loc) (hS : va_S A s.heap H locs) (ls : Array Slot) (hl : lv_has ls 2 []) : W p l e rm_X7_isBelow s m args below meth c H locs 0 0 (MQ below (va_Qi (fun (r : Int32) (_ : Unit) => r = Z) (fun _ _ => True) A) args s 0 0 A) (F0 m 13 ls []) := by
  obtain ⟨hx, hb, hr, hml, hown, hts, hlocks⟩ := id C0
  rw [ok_X7_isBelow_13] at hok
  rw [rs_X7_isBelow_13] at hZ
  refine lv_iconst (v := 0) hx hb dX7_isBelow_13 (by decide) ?_
  exact W.zret (v := 0) hx hb hr rfl (fun t ht hW => ⟨⟨0, (), rfl, hZ, trivial⟩, hS.F ht⟩) hS.2.2 dX7_isBelow_14 hlocks
def rs_X7_isBelow (x0 : Int32) (x1 : Int32) : Int32 := (if x0 < 0 then (rs_X7_isBelow_13 ) else (if x1 ≤ x0 then (rs_X7_isBelow_13 ) else 1))
def ok_X7_isBelow (x0 : Int32) (x1 : Int32) : Prop := (if x0 < 0 then ok_X7_isBelow_13  else (if x1 ≤ x0 then ok_X7_isBelow_13  else True))
set_option maxHeartbeats 4000000 in
set_option maxRecDepth 100000 in
theorem w_X7_isBelow {p : Program} {l : Launch} {e : Env} {s : State} {m : MethodId} {args : Array Value} {below : List Frame} {meth : Method} {c : Code} {A : Nat → Prop} (C0 : Cx p s m args meth c RX7 cX7_isBelow (some .boolean) 2 wsX7_isBelow) (hA : ∀ q, s.heap.size ≤ q → A q) (Z : Int32) (x0 : Int32) (x1 : Int32) (hok : ok_X7_isBelow x0 x1) (hZ : rs_X7_isBelow x0 x1 = Z) (H : Heap) (locs : List Loc) (hS : va_S A s.heap H locs) (ls : Array Slot) (hl : lv_has ls 2 [(0, .int x0), (1, .int x1)]) : W p l e rm_X7_isBelow s m args below meth c H locs 0 0 (MQ below (va_Qi (fun (r : Int32) (_ : Unit) => r = Z) (fun _ _ => True) A) args s 0 0 A) (F0 m 0 ls []) := by
  obtain ⟨hx, hb, hr, hml, hown, hts, hlocks⟩ := id C0
  rw [ok_X7_isBelow] at hok
  rw [rs_X7_isBelow] at hZ
  refine lv_iload_n hx hb dX7_isBelow_0 rfl (lv_at hl 0 rfl) ?_
  refine lv_if_lt (tgt := 13) hx hb dX7_isBelow_1 (by decide) (fun c_1 => ?_) (fun c_1 => ?_)
  · have hok := okT hok c_1
    have hZ := rsT hZ c_1
    exact w_X7_isBelow_13 C0  hA Z  hok hZ _ _ hS _ (lv_sub hl [] rfl)
  · have hok := okF hok c_1
    have hZ := rsF hZ c_1
    refine lv_iload_n hx hb dX7_isBelow_4 rfl (lv_at hl 0 rfl) ?_
    refine lv_iload_n hx hb dX7_isBelow_5 rfl (lv_at hl 1 rfl) ?_
    refine lv_icmp_ge (tgt := 13) hx hb dX7_isBelow_6 (by decide) (fun c_2 => ?_) (fun c_2 => ?_)
    · have hok := okT hok c_2
      have hZ := rsT hZ c_2
      exact w_X7_isBelow_13 C0  hA Z  hok hZ _ _ hS _ (lv_sub hl [] rfl)
    · have hok := okF hok c_2
      have hZ := rsF hZ c_2
      refine lv_iconst (v := 1) hx hb dX7_isBelow_9 (by decide) ?_
      refine lv_goto (tgt := 14) hx hb dX7_isBelow_10 (by decide) ?_
      exact W.zret (v := 1) hx hb hr rfl (fun t ht hW => ⟨⟨1, (), rfl, hZ, trivial⟩, hS.F ht⟩) hS.2.2 dX7_isBelow_14 hlocks
set_option maxHeartbeats 4000000 in
set_option maxRecDepth 100000 in
theorem c_X7_isBelow (l : Launch) (sz : Nat) (x0 : Int32) (x1 : Int32) (hok : ok_X7_isBelow x0 x1) : Met l yX7_isBelow wsX7_isBelow rm_X7_isBelow (va_Pc [.int x0, .int x1] (fun U => U.heap.size = sz)) (va_Qi (fun (r : Int32) (_ : Unit) => r = rs_X7_isBelow x0 x1) (fun _ _ => True) (va_A [] sz)) 0 0 (va_A [] sz) := by
  refine Met.ofW (cc := cX7_isBelow) (maxL := 2) (ret := (some .boolean)) (by decide) rfl ?_
  intro p e s m args below meth c s₁ B hml hv
  obtain ⟨rfl, hsz⟩ := hv
  subst hsz
  have hl := lv_entry ([.int x0, .int x1]) (n := 2) (Nat.le_of_ble_eq_true rfl)
  rw [lg_entry_eq]
  generalize (lg_sl ([.int x0, .int x1]) ++ List.replicate (2 - (lg_sl ([.int x0, .int x1])).length) Slot.unset).toArray = ls at hl ⊢
  have hl : lv_has ls 2 [(0, .int x0), (1, .int x1)] := hl
  exact w_X7_isBelow ⟨B.exec, B.bytes, B.returns, hml, findClass_of_methodNamed B.named, atoms_spec (ws := wsX7_isBelow) B.pre, B.notSynchronized⟩ (fun q h => Or.inr h) _ x0 x1 hok rfl _ _ va_S.rf ls hl
abbrev rm_X7_isNumber : Room := { frames := 0, cells := 0, slots := 0, locals := 0 }
def rs_X7_isNumber_18  : Int32 := 0
def ok_X7_isNumber_18  : Prop := True
set_option maxHeartbeats 4000000 in
set_option maxRecDepth 100000 in
theorem w_X7_isNumber_18 {p : Program} {l : Launch} {e : Env} {s : State} {m : MethodId} {args : Array Value} {below : List Frame} {meth : Method} {c : Code} {A : Nat → Prop} (C0 : Cx p s m args meth c RX7 cX7_isNumber (some .boolean) 1 wsX7_isNumber) (hA : ∀ q, s.heap.size ≤ q → A q) (Z : Int32)  (hok : ok_X7_isNumber_18) (hZ : rs_X7_isNumber_18 = Z) (H : Heap) (locs : List Loc) (hS : va_S A s.heap H locs) (ls : Array Slot) (hl : lv_has ls 1 []) : W p l e rm_X7_isNumber s m args below meth c H locs 0 0 (MQ below (va_Qi (fun (r : Int32) (_ : Unit) => r = Z) (fun _ _ => True) A) args s 0 0 A) (F0 m 18 ls []) := by
  obtain ⟨hx, hb, hr, hml, hown, hts, hlocks⟩ := id C0
  rw [ok_X7_isNumber_18] at hok
  rw [rs_X7_isNumber_18] at hZ
  refine lv_iconst (v := 0) hx hb dX7_isNumber_18 (by decide) ?_
  exact W.zret (v := 0) hx hb hr rfl (fun t ht hW => ⟨⟨0, (), rfl, hZ, trivial⟩, hS.F ht⟩) hS.2.2 dX7_isNumber_19 hlocks
def rs_X7_isNumber (x0 : Int32) : Int32 := (if x0 < (-1000) then (rs_X7_isNumber_18 ) else (if 1000 < x0 then (rs_X7_isNumber_18 ) else 1))
def ok_X7_isNumber (x0 : Int32) : Prop := (if x0 < (-1000) then ok_X7_isNumber_18  else (if 1000 < x0 then ok_X7_isNumber_18  else True))
set_option maxHeartbeats 4000000 in
set_option maxRecDepth 100000 in
theorem w_X7_isNumber {p : Program} {l : Launch} {e : Env} {s : State} {m : MethodId} {args : Array Value} {below : List Frame} {meth : Method} {c : Code} {A : Nat → Prop} (C0 : Cx p s m args meth c RX7 cX7_isNumber (some .boolean) 1 wsX7_isNumber) (hA : ∀ q, s.heap.size ≤ q → A q) (Z : Int32) (x0 : Int32) (hok : ok_X7_isNumber x0) (hZ : rs_X7_isNumber x0 = Z) (H : Heap) (locs : List Loc) (hS : va_S A s.heap H locs) (ls : Array Slot) (hl : lv_has ls 1 [(0, .int x0)]) : W p l e rm_X7_isNumber s m args below meth c H locs 0 0 (MQ below (va_Qi (fun (r : Int32) (_ : Unit) => r = Z) (fun _ _ => True) A) args s 0 0 A) (F0 m 0 ls []) := by
  obtain ⟨hx, hb, hr, hml, hown, hts, hlocks⟩ := id C0
  rw [ok_X7_isNumber] at hok
  rw [rs_X7_isNumber] at hZ
  refine lv_iload_n hx hb dX7_isNumber_0 rfl (lv_at hl 0 rfl) ?_
  refine lv_sipush (v := (-1000)) hx hb dX7_isNumber_1 (by decide) ?_
  refine lv_icmp_lt (tgt := 18) hx hb dX7_isNumber_4 (by decide) (fun c_1 => ?_) (fun c_1 => ?_)
  · have hok := okT hok c_1
    have hZ := rsT hZ c_1
    exact w_X7_isNumber_18 C0  hA Z  hok hZ _ _ hS _ (lv_sub hl [] rfl)
  · have hok := okF hok c_1
    have hZ := rsF hZ c_1
    refine lv_iload_n hx hb dX7_isNumber_7 rfl (lv_at hl 0 rfl) ?_
    refine lv_sipush (v := 1000) hx hb dX7_isNumber_8 (by decide) ?_
    refine lv_icmp_gt (tgt := 18) hx hb dX7_isNumber_11 (by decide) (fun c_2 => ?_) (fun c_2 => ?_)
    · have hok := okT hok c_2
      have hZ := rsT hZ c_2
      exact w_X7_isNumber_18 C0  hA Z  hok hZ _ _ hS _ (lv_sub hl [] rfl)
    · have hok := okF hok c_2
      have hZ := rsF hZ c_2
      refine lv_iconst (v := 1) hx hb dX7_isNumber_14 (by decide) ?_
      refine lv_goto (tgt := 19) hx hb dX7_isNumber_15 (by decide) ?_
      exact W.zret (v := 1) hx hb hr rfl (fun t ht hW => ⟨⟨1, (), rfl, hZ, trivial⟩, hS.F ht⟩) hS.2.2 dX7_isNumber_19 hlocks
set_option maxHeartbeats 4000000 in
set_option maxRecDepth 100000 in
theorem c_X7_isNumber (l : Launch) (sz : Nat) (x0 : Int32) (hok : ok_X7_isNumber x0) : Met l yX7_isNumber wsX7_isNumber rm_X7_isNumber (va_Pc [.int x0] (fun U => U.heap.size = sz)) (va_Qi (fun (r : Int32) (_ : Unit) => r = rs_X7_isNumber x0) (fun _ _ => True) (va_A [] sz)) 0 0 (va_A [] sz) := by
  refine Met.ofW (cc := cX7_isNumber) (maxL := 1) (ret := (some .boolean)) (by decide) rfl ?_
  intro p e s m args below meth c s₁ B hml hv
  obtain ⟨rfl, hsz⟩ := hv
  subst hsz
  have hl := lv_entry ([.int x0]) (n := 1) (Nat.le_of_ble_eq_true rfl)
  rw [lg_entry_eq]
  generalize (lg_sl ([.int x0]) ++ List.replicate (1 - (lg_sl ([.int x0])).length) Slot.unset).toArray = ls at hl ⊢
  have hl : lv_has ls 1 [(0, .int x0)] := hl
  exact w_X7_isNumber ⟨B.exec, B.bytes, B.returns, hml, findClass_of_methodNamed B.named, atoms_spec (ws := wsX7_isNumber) B.pre, B.notSynchronized⟩ (fun q h => Or.inr h) _ x0 hok rfl _ _ va_S.rf ls hl
abbrev rm_X7_canBe : Room := { frames := 1, cells := 0, slots := 0, locals := 21 }
def rs_X7_canBe_70  : Int32 := 0
def ok_X7_canBe_70  : Prop := True
set_option maxHeartbeats 4000000 in
set_option maxRecDepth 100000 in
theorem w_X7_canBe_70 {p : Program} {l : Launch} {e : Env} {s : State} {m : MethodId} {args : Array Value} {below : List Frame} {meth : Method} {c : Code} {A : Nat → Prop} (C0 : Cx p s m args meth c RX7 cX7_canBe (some .boolean) 2 wsX7_canBe) (hA : ∀ q, s.heap.size ≤ q → A q) (Z : Int32)  (hok : ok_X7_canBe_70) (hZ : rs_X7_canBe_70 = Z) (H : Heap) (locs : List Loc) (hS : va_S A s.heap H locs) (ls : Array Slot) (hl : lv_has ls 2 []) : W p l e rm_X7_canBe s m args below meth c H locs 0 0 (MQ below (va_Qi (fun (r : Int32) (_ : Unit) => r = Z) (fun _ _ => True) A) args s 0 0 A) (F0 m 70 ls []) := by
  obtain ⟨hx, hb, hr, hml, hown, hts, hlocks⟩ := id C0
  rw [ok_X7_canBe_70] at hok
  rw [rs_X7_canBe_70] at hZ
  refine lv_iconst (v := 0) hx hb dX7_canBe_70 (by decide) ?_
  exact W.zret (v := 0) hx hb hr rfl (fun t ht hW => ⟨⟨0, (), rfl, hZ, trivial⟩, hS.F ht⟩) hS.2.2 dX7_canBe_71 hlocks
def rs_X7_canBe_56 (x1 : Int32) : Int32 := (if x1 < 0 then (rs_X7_canBe_70 ) else (if 16 < x1 then (rs_X7_canBe_70 ) else 1))
def ok_X7_canBe_56 (x1 : Int32) : Prop := (if x1 < 0 then ok_X7_canBe_70  else (if 16 < x1 then ok_X7_canBe_70  else True))
set_option maxHeartbeats 4000000 in
set_option maxRecDepth 100000 in
theorem w_X7_canBe_56 {p : Program} {l : Launch} {e : Env} {s : State} {m : MethodId} {args : Array Value} {below : List Frame} {meth : Method} {c : Code} {A : Nat → Prop} (C0 : Cx p s m args meth c RX7 cX7_canBe (some .boolean) 2 wsX7_canBe) (hA : ∀ q, s.heap.size ≤ q → A q) (Z : Int32) (x1 : Int32) (hok : ok_X7_canBe_56 x1) (hZ : rs_X7_canBe_56 x1 = Z) (H : Heap) (locs : List Loc) (hS : va_S A s.heap H locs) (ls : Array Slot) (hl : lv_has ls 2 [(1, .int x1)]) : W p l e rm_X7_canBe s m args below meth c H locs 0 0 (MQ below (va_Qi (fun (r : Int32) (_ : Unit) => r = Z) (fun _ _ => True) A) args s 0 0 A) (F0 m 56 ls []) := by
  obtain ⟨hx, hb, hr, hml, hown, hts, hlocks⟩ := id C0
  rw [ok_X7_canBe_56] at hok
  rw [rs_X7_canBe_56] at hZ
  refine lv_iload_n hx hb dX7_canBe_56 rfl (lv_at hl 0 rfl) ?_
  refine lv_if_lt (tgt := 70) hx hb dX7_canBe_57 (by decide) (fun c_1 => ?_) (fun c_1 => ?_)
  · have hok := okT hok c_1
    have hZ := rsT hZ c_1
    exact w_X7_canBe_70 C0  hA Z  hok hZ _ _ hS _ (lv_sub hl [] rfl)
  · have hok := okF hok c_1
    have hZ := rsF hZ c_1
    refine lv_iload_n hx hb dX7_canBe_60 rfl (lv_at hl 0 rfl) ?_
    refine lv_bipush (v := 16) hx hb dX7_canBe_61 (by decide) ?_
    refine lv_icmp_gt (tgt := 70) hx hb dX7_canBe_63 (by decide) (fun c_2 => ?_) (fun c_2 => ?_)
    · have hok := okT hok c_2
      have hZ := rsT hZ c_2
      exact w_X7_canBe_70 C0  hA Z  hok hZ _ _ hS _ (lv_sub hl [] rfl)
    · have hok := okF hok c_2
      have hZ := rsF hZ c_2
      refine lv_iconst (v := 1) hx hb dX7_canBe_66 (by decide) ?_
      refine lv_goto (tgt := 71) hx hb dX7_canBe_67 (by decide) ?_
      exact W.zret (v := 1) hx hb hr rfl (fun t ht hW => ⟨⟨1, (), rfl, hZ, trivial⟩, hS.F ht⟩) hS.2.2 dX7_canBe_71 hlocks
def rs_X7_canBe_91  : Int32 := 0
def ok_X7_canBe_91  : Prop := True
set_option maxHeartbeats 4000000 in
set_option maxRecDepth 100000 in
theorem w_X7_canBe_91 {p : Program} {l : Launch} {e : Env} {s : State} {m : MethodId} {args : Array Value} {below : List Frame} {meth : Method} {c : Code} {A : Nat → Prop} (C0 : Cx p s m args meth c RX7 cX7_canBe (some .boolean) 2 wsX7_canBe) (hA : ∀ q, s.heap.size ≤ q → A q) (Z : Int32)  (hok : ok_X7_canBe_91) (hZ : rs_X7_canBe_91 = Z) (H : Heap) (locs : List Loc) (hS : va_S A s.heap H locs) (ls : Array Slot) (hl : lv_has ls 2 []) : W p l e rm_X7_canBe s m args below meth c H locs 0 0 (MQ below (va_Qi (fun (r : Int32) (_ : Unit) => r = Z) (fun _ _ => True) A) args s 0 0 A) (F0 m 91 ls []) := by
  obtain ⟨hx, hb, hr, hml, hown, hts, hlocks⟩ := id C0
  rw [ok_X7_canBe_91] at hok
  rw [rs_X7_canBe_91] at hZ
  refine lv_iconst (v := 0) hx hb dX7_canBe_91 (by decide) ?_
  exact W.zret (v := 0) hx hb hr rfl (fun t ht hW => ⟨⟨0, (), rfl, hZ, trivial⟩, hS.F ht⟩) hS.2.2 dX7_canBe_92 hlocks
def rs_X7_canBe (x0 : Int32) (x1 : Int32) : Int32 := (if x0 = 0 then (rs_X7_isNumber x1) else (if x0 = 1 then (rs_X7_isBelow x1 8) else (if x0 = 10 then (rs_X7_canBe_56 x1) else (if x0 = 11 then (rs_X7_canBe_56 x1) else (if x0 < 2 then (rs_X7_canBe_91 ) else (if 12 < x0 then (rs_X7_canBe_91 ) else (if x1 = 0 then 1 else (rs_X7_canBe_91 ))))))))
def ok_X7_canBe (x0 : Int32) (x1 : Int32) : Prop := (if x0 = 0 then ((ok_X7_isNumber x1) ∧ ((narrow .boolean (.int (rs_X7_isNumber x1)) = .int (rs_X7_isNumber x1)) ∧ True)) else (if x0 = 1 then ((ok_X7_isBelow x1 8) ∧ ((narrow .boolean (.int (rs_X7_isBelow x1 8)) = .int (rs_X7_isBelow x1 8)) ∧ True)) else (if x0 = 10 then ok_X7_canBe_56 x1 else (if x0 = 11 then ok_X7_canBe_56 x1 else (if x0 < 2 then ok_X7_canBe_91  else (if 12 < x0 then ok_X7_canBe_91  else (if x1 = 0 then True else ok_X7_canBe_91 )))))))
set_option maxHeartbeats 4000000 in
set_option maxRecDepth 100000 in
theorem w_X7_canBe {p : Program} {l : Launch} {e : Env} {s : State} {m : MethodId} {args : Array Value} {below : List Frame} {meth : Method} {c : Code} {A : Nat → Prop} (C0 : Cx p s m args meth c RX7 cX7_canBe (some .boolean) 2 wsX7_canBe) (hA : ∀ q, s.heap.size ≤ q → A q) (Z : Int32) (x0 : Int32) (x1 : Int32) (hok : ok_X7_canBe x0 x1) (hZ : rs_X7_canBe x0 x1 = Z) (H : Heap) (locs : List Loc) (hS : va_S A s.heap H locs) (ls : Array Slot) (hl : lv_has ls 2 [(0, .int x0), (1, .int x1)]) : W p l e rm_X7_canBe s m args below meth c H locs 0 0 (MQ below (va_Qi (fun (r : Int32) (_ : Unit) => r = Z) (fun _ _ => True) A) args s 0 0 A) (F0 m 0 ls []) := by
  obtain ⟨hx, hb, hr, hml, hown, hts, hlocks⟩ := id C0
  rw [ok_X7_canBe] at hok
  rw [rs_X7_canBe] at hZ
  refine lv_iload_n hx hb dX7_canBe_0 rfl (lv_at hl 0 rfl) ?_
  by_cases c_8_k0 : x0 = 0
  · have hok := okT hok c_8_k0
    have hZ := rsT hZ c_8_k0
    refine lv_lookup (off := 43) (tgt := 44) hx hb dX7_canBe_1 (by decide) (by rw [c_8_k0]; rfl) (by decide) ?_
    refine lv_iload_n hx hb dX7_canBe_44 rfl (lv_at hl 1 rfl) ?_
    obtain ⟨k_1, hok⟩ := hok
    have hFc := wFr hS hA
    refine va_calli (va_runS (As := [.int x1]) (rest := []) ⟨hx, hb, hml, hown, hts⟩ (c_X7_isNumber l H.size x1 k_1) (va_cwS 1 hts gX7_canBe_X7_isNumber rfl rfl rfl (by decide +kernel) ⟨Nat.le_of_ble_eq_true rfl, Nat.le_of_ble_eq_true rfl⟩) ⟨fun a9 U g9 mk9 q9 => q9, fun U hU hW => ⟨rfl, congrArg Array.size hU⟩⟩ rfl rfl hl.1 rfl (lv_room (Nat.le_of_ble_eq_true rfl)) dX7_canBe_45 ⟨Nat.zero_le _, Nat.zero_le _⟩) hS (fun q _ h => hFc q h) hFc (fun r u t H1 locs ht hvm hw hB hz1 hk1 hS => ?_)
    subst hw
    generalize H1 = H at hS ⊢
    obtain ⟨h_2, hok⟩ := hok
    exact W.zret (v := (rs_X7_isNumber x1)) hx hb hr h_2 (fun t ht hW => ⟨⟨(rs_X7_isNumber x1), (), rfl, hZ, trivial⟩, hS.F ht⟩) hS.2.2 dX7_canBe_48 hlocks
  · have hok := okF hok c_8_k0
    have hZ := rsF hZ c_8_k0
    by_cases c_8_k1 : x0 = 1
    · have hok := okT hok c_8_k1
      have hZ := rsT hZ c_8_k1
      refine lv_lookup (off := 48) (tgt := 49) hx hb dX7_canBe_1 (by decide) (by rw [c_8_k1]; rfl) (by decide) ?_
      refine lv_iload_n hx hb dX7_canBe_49 rfl (lv_at hl 1 rfl) ?_
      refine lv_bipush (v := 8) hx hb dX7_canBe_50 (by decide) ?_
      obtain ⟨k_3, hok⟩ := hok
      have hFc := wFr hS hA
      refine va_calli (va_runS (As := [.int x1, .int 8]) (rest := []) ⟨hx, hb, hml, hown, hts⟩ (c_X7_isBelow l H.size x1 8 k_3) (va_cwS 2 hts gX7_canBe_X7_isBelow rfl rfl rfl (by decide +kernel) ⟨Nat.le_of_ble_eq_true rfl, Nat.le_of_ble_eq_true rfl⟩) ⟨fun a9 U g9 mk9 q9 => q9, fun U hU hW => ⟨rfl, congrArg Array.size hU⟩⟩ rfl rfl hl.1 rfl (lv_room (Nat.le_of_ble_eq_true rfl)) dX7_canBe_52 ⟨Nat.zero_le _, Nat.zero_le _⟩) hS (fun q _ h => hFc q h) hFc (fun r u t H1 locs ht hvm hw hB hz1 hk1 hS => ?_)
      subst hw
      generalize H1 = H at hS ⊢
      obtain ⟨h_4, hok⟩ := hok
      exact W.zret (v := (rs_X7_isBelow x1 8)) hx hb hr h_4 (fun t ht hW => ⟨⟨(rs_X7_isBelow x1 8), (), rfl, hZ, trivial⟩, hS.F ht⟩) hS.2.2 dX7_canBe_55 hlocks
    · have hok := okF hok c_8_k1
      have hZ := rsF hZ c_8_k1
      by_cases c_8_k10 : x0 = 10
      · have hok := okT hok c_8_k10
        have hZ := rsT hZ c_8_k10
        refine lv_lookup (off := 55) (tgt := 56) hx hb dX7_canBe_1 (by decide) (by rw [c_8_k10]; rfl) (by decide) ?_
        exact w_X7_canBe_56 C0  hA Z x1 hok hZ _ _ hS _ (lv_sub hl [1] rfl)
      · have hok := okF hok c_8_k10
        have hZ := rsF hZ c_8_k10
        by_cases c_8_k11 : x0 = 11
        · have hok := okT hok c_8_k11
          have hZ := rsT hZ c_8_k11
          refine lv_lookup (off := 55) (tgt := 56) hx hb dX7_canBe_1 (by decide) (by rw [c_8_k11]; rfl) (by decide) ?_
          exact w_X7_canBe_56 C0  hA Z x1 hok hZ _ _ hS _ (lv_sub hl [1] rfl)
        · have hok := okF hok c_8_k11
          have hZ := rsF hZ c_8_k11
          refine lv_lookup (off := 71) (tgt := 72) hx hb dX7_canBe_1 (by decide) (by show Op.lookupswitch.offset [(0, 43), (1, 48), (10, 55), (11, 55)] 71 _ = 71; rw [lv_osw c_8_k0 (by decide), lv_osw c_8_k1 (by decide), lv_osw c_8_k10 (by decide), lv_osw c_8_k11 (by decide)]; rfl) (by decide) ?_
          refine lv_iload_n hx hb dX7_canBe_72 rfl (lv_at hl 0 rfl) ?_
          refine lv_iconst (v := 2) hx hb dX7_canBe_73 (by decide) ?_
          refine lv_icmp_lt (tgt := 91) hx hb dX7_canBe_74 (by decide) (fun c_5 => ?_) (fun c_5 => ?_)
          · have hok := okT hok c_5
            have hZ := rsT hZ c_5
            exact w_X7_canBe_91 C0  hA Z  hok hZ _ _ hS _ (lv_sub hl [] rfl)
          · have hok := okF hok c_5
            have hZ := rsF hZ c_5
            refine lv_iload_n hx hb dX7_canBe_77 rfl (lv_at hl 0 rfl) ?_
            refine lv_bipush (v := 12) hx hb dX7_canBe_78 (by decide) ?_
            refine lv_icmp_gt (tgt := 91) hx hb dX7_canBe_80 (by decide) (fun c_6 => ?_) (fun c_6 => ?_)
            · have hok := okT hok c_6
              have hZ := rsT hZ c_6
              exact w_X7_canBe_91 C0  hA Z  hok hZ _ _ hS _ (lv_sub hl [] rfl)
            · have hok := okF hok c_6
              have hZ := rsF hZ c_6
              refine lv_iload_n hx hb dX7_canBe_83 rfl (lv_at hl 1 rfl) ?_
              refine lv_if_ne (tgt := 91) hx hb dX7_canBe_84 (by decide) (fun c_7 => ?_) (fun c_7 => ?_)
              · have hok := okF hok c_7
                have hZ := rsF hZ c_7
                exact w_X7_canBe_91 C0  hA Z  hok hZ _ _ hS _ (lv_sub hl [] rfl)
              · have hok := okT hok c_7
                have hZ := rsT hZ c_7
                refine lv_iconst (v := 1) hx hb dX7_canBe_87 (by decide) ?_
                refine lv_goto (tgt := 92) hx hb dX7_canBe_88 (by decide) ?_
                exact W.zret (v := 1) hx hb hr rfl (fun t ht hW => ⟨⟨1, (), rfl, hZ, trivial⟩, hS.F ht⟩) hS.2.2 dX7_canBe_92 hlocks
set_option maxHeartbeats 4000000 in
set_option maxRecDepth 100000 in
theorem c_X7_canBe (l : Launch) (sz : Nat) (x0 : Int32) (x1 : Int32) (hok : ok_X7_canBe x0 x1) : Met l yX7_canBe wsX7_canBe rm_X7_canBe (va_Pc [.int x0, .int x1] (fun U => U.heap.size = sz)) (va_Qi (fun (r : Int32) (_ : Unit) => r = rs_X7_canBe x0 x1) (fun _ _ => True) (va_A [] sz)) 0 0 (va_A [] sz) := by
  refine Met.ofW (cc := cX7_canBe) (maxL := 2) (ret := (some .boolean)) (by decide) rfl ?_
  intro p e s m args below meth c s₁ B hml hv
  obtain ⟨rfl, hsz⟩ := hv
  subst hsz
  have hl := lv_entry ([.int x0, .int x1]) (n := 2) (Nat.le_of_ble_eq_true rfl)
  rw [lg_entry_eq]
  generalize (lg_sl ([.int x0, .int x1]) ++ List.replicate (2 - (lg_sl ([.int x0, .int x1])).length) Slot.unset).toArray = ls at hl ⊢
  have hl : lv_has ls 2 [(0, .int x0), (1, .int x1)] := hl
  exact w_X7_canBe ⟨B.exec, B.bytes, B.returns, hml, findClass_of_methodNamed B.named, atoms_spec (ws := wsX7_canBe) B.pre, B.notSynchronized⟩ (fun q h => Or.inr h) _ x0 x1 hok rfl _ _ va_S.rf ls hl
abbrev rm_X7_pathByPoints : Room := { frames := 0, cells := 0, slots := 0, locals := 0 }
def rs_X7_pathByPoints (x0 : Int32) : Int32 := (if 20 ≤ x0 then (if 50 ≤ x0 then (if 80 ≤ x0 then 3 else 2) else 1) else 0)
def ok_X7_pathByPoints (x0 : Int32) : Prop := (if 20 ≤ x0 then (if 50 ≤ x0 then (if 80 ≤ x0 then True else True) else True) else True)
set_option maxHeartbeats 4000000 in
set_option maxRecDepth 100000 in
theorem w_X7_pathByPoints {p : Program} {l : Launch} {e : Env} {s : State} {m : MethodId} {args : Array Value} {below : List Frame} {meth : Method} {c : Code} {A : Nat → Prop} (C0 : Cx p s m args meth c RX7 cX7_pathByPoints (some .int) 1 wsX7_pathByPoints) (hA : ∀ q, s.heap.size ≤ q → A q) (Z : Int32) (x0 : Int32) (hok : ok_X7_pathByPoints x0) (hZ : rs_X7_pathByPoints x0 = Z) (H : Heap) (locs : List Loc) (hS : va_S A s.heap H locs) (ls : Array Slot) (hl : lv_has ls 1 [(0, .int x0)]) : W p l e rm_X7_pathByPoints s m args below meth c H locs 0 0 (MQ below (va_Qi (fun (r : Int32) (_ : Unit) => r = Z) (fun _ _ => True) A) args s 0 0 A) (F0 m 0 ls []) := by
  obtain ⟨hx, hb, hr, hml, hown, hts, hlocks⟩ := id C0
  rw [ok_X7_pathByPoints] at hok
  rw [rs_X7_pathByPoints] at hZ
  refine lv_iload_n hx hb dX7_pathByPoints_0 rfl (lv_at hl 0 rfl) ?_
  refine lv_bipush (v := 20) hx hb dX7_pathByPoints_1 (by decide) ?_
  refine lv_icmp_ge (tgt := 8) hx hb dX7_pathByPoints_3 (by decide) (fun c_1 => ?_) (fun c_1 => ?_)
  · have hok := okT hok c_1
    have hZ := rsT hZ c_1
    refine lv_iload_n hx hb dX7_pathByPoints_8 rfl (lv_at hl 0 rfl) ?_
    refine lv_bipush (v := 50) hx hb dX7_pathByPoints_9 (by decide) ?_
    refine lv_icmp_ge (tgt := 16) hx hb dX7_pathByPoints_11 (by decide) (fun c_2 => ?_) (fun c_2 => ?_)
    · have hok := okT hok c_2
      have hZ := rsT hZ c_2
      refine lv_iload_n hx hb dX7_pathByPoints_16 rfl (lv_at hl 0 rfl) ?_
      refine lv_bipush (v := 80) hx hb dX7_pathByPoints_17 (by decide) ?_
      refine lv_icmp_ge (tgt := 26) hx hb dX7_pathByPoints_19 (by decide) (fun c_3 => ?_) (fun c_3 => ?_)
      · have hok := okT hok c_3
        have hZ := rsT hZ c_3
        refine lv_iconst (v := 3) hx hb dX7_pathByPoints_26 (by decide) ?_
        exact W.iret (v := 3) hx hb hr (fun t ht hW => ⟨⟨3, (), rfl, hZ, trivial⟩, hS.F ht⟩) hS.2.2 dX7_pathByPoints_27 hlocks
      · have hok := okF hok c_3
        have hZ := rsF hZ c_3
        refine lv_iconst (v := 2) hx hb dX7_pathByPoints_22 (by decide) ?_
        refine lv_goto (tgt := 27) hx hb dX7_pathByPoints_23 (by decide) ?_
        exact W.iret (v := 2) hx hb hr (fun t ht hW => ⟨⟨2, (), rfl, hZ, trivial⟩, hS.F ht⟩) hS.2.2 dX7_pathByPoints_27 hlocks
    · have hok := okF hok c_2
      have hZ := rsF hZ c_2
      refine lv_iconst (v := 1) hx hb dX7_pathByPoints_14 (by decide) ?_
      exact W.iret (v := 1) hx hb hr (fun t ht hW => ⟨⟨1, (), rfl, hZ, trivial⟩, hS.F ht⟩) hS.2.2 dX7_pathByPoints_15 hlocks
  · have hok := okF hok c_1
    have hZ := rsF hZ c_1
    refine lv_iconst (v := 0) hx hb dX7_pathByPoints_6 (by decide) ?_
    exact W.iret (v := 0) hx hb hr (fun t ht hW => ⟨⟨0, (), rfl, hZ, trivial⟩, hS.F ht⟩) hS.2.2 dX7_pathByPoints_7 hlocks
set_option maxHeartbeats 4000000 in
set_option maxRecDepth 100000 in
theorem c_X7_pathByPoints (l : Launch) (sz : Nat) (x0 : Int32) (hok : ok_X7_pathByPoints x0) : Met l yX7_pathByPoints wsX7_pathByPoints rm_X7_pathByPoints (va_Pc [.int x0] (fun U => U.heap.size = sz)) (va_Qi (fun (r : Int32) (_ : Unit) => r = rs_X7_pathByPoints x0) (fun _ _ => True) (va_A [] sz)) 0 0 (va_A [] sz) := by
  refine Met.ofW (cc := cX7_pathByPoints) (maxL := 1) (ret := (some .int)) (by decide) rfl ?_
  intro p e s m args below meth c s₁ B hml hv
  obtain ⟨rfl, hsz⟩ := hv
  subst hsz
  have hl := lv_entry ([.int x0]) (n := 1) (Nat.le_of_ble_eq_true rfl)
  rw [lg_entry_eq]
  generalize (lg_sl ([.int x0]) ++ List.replicate (1 - (lg_sl ([.int x0])).length) Slot.unset).toArray = ls at hl ⊢
  have hl : lv_has ls 1 [(0, .int x0)] := hl
  exact w_X7_pathByPoints ⟨B.exec, B.bytes, B.returns, hml, findClass_of_methodNamed B.named, atoms_spec (ws := wsX7_pathByPoints) B.pre, B.notSynchronized⟩ (fun q h => Or.inr h) _ x0 hok rfl _ _ va_S.rf ls hl
abbrev rm_X7_fieldValue : Room := { frames := 1, cells := 0, slots := 0, locals := 21 }
theorem iX7_fieldValue_X7 : ∀ w ∈ wsX70, w ∈ wsX7_fieldValue := by decide +kernel
def rs_X7_fieldValue (S : St) (x1 : Int32) : Int32 × St := (if (rs_X7_isBelow x1 8) = 0 then ((-1), S) else (((S.2 1) x1.toNatClampNeg), S))
def ok_X7_fieldValue (S : St) (x1 : Int32) : Prop := ((ok_X7_isBelow x1 8) ∧ (if (rs_X7_isBelow x1 8) = 0 then True else ((vp_in x1 8) ∧ True)))
set_option maxHeartbeats 4000000 in
set_option maxRecDepth 100000 in
theorem w_X7_fieldValue {p : Program} {l : Launch} {e : Env} {s : State} {m : MethodId} {args : Array Value} {below : List Frame} {meth : Method} {c : Code} {dC : Nat → ClassId} {dI : Nat → Nat → Nat} {cI cZ : ClassId} {a : Nat → Nat} {A : Nat → Prop} (C0 : Cx p s m args meth c RX7 cX7_fieldValue (some .int) 2 wsX7_fieldValue) (hK : va_K (dC, dI) vwCl (tI cI cZ) s) (hA : ∀ q, s.heap.size ≤ q → A q) (Z : Int32 × St) (S : St) (x1 : Int32) (hok : ok_X7_fieldValue S x1) (hZ : rs_X7_fieldValue S x1 = Z) (H : Heap) (locs : List Loc) (hP : va_P (dC, dI) vwCl (cW cI cZ a S) H) (hD : va_D A (cW cI cZ a S)) (hS : va_S A s.heap H locs) (ls : Array Slot) (hl : lv_has ls 2 [(0, .ref (a 0)), (1, .int x1)]) : W p l e rm_X7_fieldValue s m args below meth c H locs 0 0 (MQ below (va_Qi (fun (r : Int32) (u : St) => (r, u) = Z) (cWB dC dI cI cZ a A) A) args s 0 0 A) (F0 m 0 ls []) := by
  obtain ⟨hx, hb, hr, hml, hown, hts, hlocks⟩ := id C0
  rw [ok_X7_fieldValue] at hok
  rw [rs_X7_fieldValue] at hZ
  refine lv_iload_n hx hb dX7_fieldValue_0 rfl (lv_at hl 1 rfl) ?_
  refine lv_bipush (v := 8) hx hb dX7_fieldValue_1 (by decide) ?_
  obtain ⟨k_1, hok⟩ := hok
  have hFc := wFr hS hA
  refine va_calli (va_runS (As := [.int x1, .int 8]) (rest := []) ⟨hx, hb, hml, hown, hts⟩ (c_X7_isBelow l H.size x1 8 k_1) (va_cwS 2 hts gX7_fieldValue_X7_isBelow rfl rfl rfl (by decide +kernel) ⟨Nat.le_of_ble_eq_true rfl, Nat.le_of_ble_eq_true rfl⟩) ⟨fun a9 U g9 mk9 q9 => q9, fun U hU hW => ⟨rfl, congrArg Array.size hU⟩⟩ rfl rfl hl.1 rfl (lv_room (Nat.le_of_ble_eq_true rfl)) dX7_fieldValue_3 ⟨Nat.zero_le _, Nat.zero_le _⟩) hS (fun q _ h => hFc q h) hFc (fun r u t H1 locs ht hvm hw hB hz1 hk1 hS => ?_)
  have hP := wKp hP hk1
  subst hw
  generalize H1 = H at hP hS ⊢
  refine lv_if_eq (tgt := 18) hx hb dX7_fieldValue_6 (by decide) (fun c_2 => ?_) (fun c_2 => ?_)
  · have hok := okT hok c_2
    have hZ := rsT hZ c_2
    refine lv_iconst (v := (-1)) hx hb dX7_fieldValue_18 (by decide) ?_
    exact W.iret (v := (-1)) hx hb hr (fun t ht hW => ⟨⟨(-1), S, rfl, hZ, by rw [ht]; exact hP, va_K.moved hW.alike hK, hD⟩, hS.F ht⟩) hS.2.2 dX7_fieldValue_19 hlocks
  · have hok := okF hok c_2
    have hZ := rsF hZ c_2
    refine lv_aload_n hx hb dX7_fieldValue_9 rfl (lv_at hl 0 rfl) ?_
    refine va_get (D := (dC, dI)) (ci := 6) (v := .ref (a 1)) (C := RX7) (T := TX7) (N := 8) hx hb hts iX7_fieldValue_X7 hown hK hP 0 rfl rfl 0 (by decide) (hts (.fieldLink RX7 9 "RiskHouse" "fields" "[I") (by decide +kernel)) (fun _ h9 => h9) rfl dX7_fieldValue_10 ?_
    refine lv_iload_n hx hb dX7_fieldValue_13 rfl (lv_at hl 1 rfl) ?_
    obtain ⟨h_3, hok⟩ := hok
    refine va_iald (f := (S.2 1)) hx hb hK hP 1 0 rfl rfl h_3 dX7_fieldValue_14 ?_
    refine lv_goto (tgt := 19) hx hb dX7_fieldValue_15 (by decide) ?_
    exact W.iret (v := ((S.2 1) x1.toNatClampNeg)) hx hb hr (fun t ht hW => ⟨⟨((S.2 1) x1.toNatClampNeg), S, rfl, hZ, by rw [ht]; exact hP, va_K.moved hW.alike hK, hD⟩, hS.F ht⟩) hS.2.2 dX7_fieldValue_19 hlocks
set_option maxHeartbeats 4000000 in
set_option maxRecDepth 100000 in
theorem c_X7_fieldValue (l : Launch) (dC : Nat → ClassId) (dI : Nat → Nat → Nat) (cI cZ : ClassId) (a : Nat → Nat) (sz : Nat) (S : St) (x1 : Int32) (hok : ok_X7_fieldValue S x1) : Met l yX7_fieldValue wsX7_fieldValue rm_X7_fieldValue (va_Pc [.ref (a 0), .int x1] (cWP dC dI cI cZ a sz S)) (va_Qi (fun (r : Int32) (u : St) => (r, u) = rs_X7_fieldValue S x1) (cWB dC dI cI cZ a (va_A (cW cI cZ a S) sz)) (va_A (cW cI cZ a S) sz)) 0 0 (va_A (cW cI cZ a S) sz) := by
  refine Met.ofW (cc := cX7_fieldValue) (maxL := 2) (ret := (some .int)) (by decide) rfl ?_
  intro p e s m args below meth c s₁ B hml hv
  obtain ⟨rfl, hsz, hP, hK, hD0⟩ := hv
  subst hsz
  have hD := hD0.self (sz := s.heap.size)
  have hl := lv_entry ([.ref (a 0), .int x1]) (n := 2) (Nat.le_of_ble_eq_true rfl)
  rw [lg_entry_eq]
  generalize (lg_sl ([.ref (a 0), .int x1]) ++ List.replicate (2 - (lg_sl ([.ref (a 0), .int x1])).length) Slot.unset).toArray = ls at hl ⊢
  have hl : lv_has ls 2 [(0, .ref (a 0)), (1, .int x1)] := hl
  exact w_X7_fieldValue ⟨B.exec, B.bytes, B.returns, hml, findClass_of_methodNamed B.named, atoms_spec (ws := wsX7_fieldValue) B.pre, B.notSynchronized⟩ hK (fun q h => Or.inr h) _ S x1 hok rfl _ _ hP hD va_S.rf ls hl
abbrev rm_X7_field : Room := { frames := 1, cells := 0, slots := 0, locals := 21 }
theorem iX7_field_X7 : ∀ w ∈ wsX70, w ∈ wsX7_field := by decide +kernel
def rs_X7_field_16 (S : St)  : Int32 × St := (0, S)
def ok_X7_field_16 (S : St)  : Prop := True
set_option maxHeartbeats 4000000 in
set_option maxRecDepth 100000 in
theorem w_X7_field_16 {p : Program} {l : Launch} {e : Env} {s : State} {m : MethodId} {args : Array Value} {below : List Frame} {meth : Method} {c : Code} {dC : Nat → ClassId} {dI : Nat → Nat → Nat} {cI cZ : ClassId} {a : Nat → Nat} {A : Nat → Prop} (C0 : Cx p s m args meth c RX7 cX7_field (some .boolean) 3 wsX7_field) (hK : va_K (dC, dI) vwCl (tI cI cZ) s) (hA : ∀ q, s.heap.size ≤ q → A q) (Z : Int32 × St) (S : St)  (hok : ok_X7_field_16 S) (hZ : rs_X7_field_16 S = Z) (H : Heap) (locs : List Loc) (hP : va_P (dC, dI) vwCl (cW cI cZ a S) H) (hD : va_D A (cW cI cZ a S)) (hS : va_S A s.heap H locs) (ls : Array Slot) (hl : lv_has ls 3 []) : W p l e rm_X7_field s m args below meth c H locs 0 0 (MQ below (va_Qi (fun (r : Int32) (u : St) => (r, u) = Z) (cWB dC dI cI cZ a A) A) args s 0 0 A) (F0 m 16 ls []) := by
  obtain ⟨hx, hb, hr, hml, hown, hts, hlocks⟩ := id C0
  rw [ok_X7_field_16] at hok
  rw [rs_X7_field_16] at hZ
  refine lv_iconst (v := 0) hx hb dX7_field_16 (by decide) ?_
  exact W.zret (v := 0) hx hb hr rfl (fun t ht hW => ⟨⟨0, S, rfl, hZ, by rw [ht]; exact hP, va_K.moved hW.alike hK, hD⟩, hS.F ht⟩) hS.2.2 dX7_field_17 hlocks
def rs_X7_field (S : St) (x1 : Int32) (x2 : Int32) : Int32 × St := (if (rs_X7_isBelow x1 8) = 0 then (rs_X7_field_16 S) else (if (rs_X7_isNumber x2) = 0 then (rs_X7_field_16 S) else (1, (sA S 1 x1.toNatClampNeg x2))))
def ok_X7_field (S : St) (x1 : Int32) (x2 : Int32) : Prop := ((ok_X7_isBelow x1 8) ∧ (if (rs_X7_isBelow x1 8) = 0 then ok_X7_field_16 S else ((ok_X7_isNumber x2) ∧ (if (rs_X7_isNumber x2) = 0 then ok_X7_field_16 S else ((vp_in x1 8) ∧ True)))))
set_option maxHeartbeats 4000000 in
set_option maxRecDepth 100000 in
theorem w_X7_field {p : Program} {l : Launch} {e : Env} {s : State} {m : MethodId} {args : Array Value} {below : List Frame} {meth : Method} {c : Code} {dC : Nat → ClassId} {dI : Nat → Nat → Nat} {cI cZ : ClassId} {a : Nat → Nat} {A : Nat → Prop} (C0 : Cx p s m args meth c RX7 cX7_field (some .boolean) 3 wsX7_field) (hK : va_K (dC, dI) vwCl (tI cI cZ) s) (hA : ∀ q, s.heap.size ≤ q → A q) (Z : Int32 × St) (S : St) (x1 : Int32) (x2 : Int32) (hok : ok_X7_field S x1 x2) (hZ : rs_X7_field S x1 x2 = Z) (H : Heap) (locs : List Loc) (hP : va_P (dC, dI) vwCl (cW cI cZ a S) H) (hD : va_D A (cW cI cZ a S)) (hS : va_S A s.heap H locs) (ls : Array Slot) (hl : lv_has ls 3 [(0, .ref (a 0)), (1, .int x1), (2, .int x2)]) : W p l e rm_X7_field s m args below meth c H locs 0 0 (MQ below (va_Qi (fun (r : Int32) (u : St) => (r, u) = Z) (cWB dC dI cI cZ a A) A) args s 0 0 A) (F0 m 0 ls []) := by
  obtain ⟨hx, hb, hr, hml, hown, hts, hlocks⟩ := id C0
  rw [ok_X7_field] at hok
  rw [rs_X7_field] at hZ
  refine lv_iload_n hx hb dX7_field_0 rfl (lv_at hl 1 rfl) ?_
  refine lv_bipush (v := 8) hx hb dX7_field_1 (by decide) ?_
  obtain ⟨k_1, hok⟩ := hok
  have hFc := wFr hS hA
  refine va_calli (va_runS (As := [.int x1, .int 8]) (rest := []) ⟨hx, hb, hml, hown, hts⟩ (c_X7_isBelow l H.size x1 8 k_1) (va_cwS 2 hts gX7_field_X7_isBelow rfl rfl rfl (by decide +kernel) ⟨Nat.le_of_ble_eq_true rfl, Nat.le_of_ble_eq_true rfl⟩) ⟨fun a9 U g9 mk9 q9 => q9, fun U hU hW => ⟨rfl, congrArg Array.size hU⟩⟩ rfl rfl hl.1 rfl (lv_room (Nat.le_of_ble_eq_true rfl)) dX7_field_3 ⟨Nat.zero_le _, Nat.zero_le _⟩) hS (fun q _ h => hFc q h) hFc (fun r u t H1 locs ht hvm hw hB hz1 hk1 hS => ?_)
  have hP := wKp hP hk1
  subst hw
  generalize H1 = H at hP hS ⊢
  refine lv_if_eq (tgt := 16) hx hb dX7_field_6 (by decide) (fun c_2 => ?_) (fun c_2 => ?_)
  · have hok := okT hok c_2
    have hZ := rsT hZ c_2
    exact w_X7_field_16 C0 hK hA Z S hok hZ _ _ hP hD hS _ (lv_sub hl [] rfl)
  · have hok := okF hok c_2
    have hZ := rsF hZ c_2
    refine lv_iload_n hx hb dX7_field_9 rfl (lv_at hl 2 rfl) ?_
    obtain ⟨k_3, hok⟩ := hok
    have hFc := wFr hS hA
    refine va_calli (va_runS (As := [.int x2]) (rest := []) ⟨hx, hb, hml, hown, hts⟩ (c_X7_isNumber l H.size x2 k_3) (va_cwS 1 hts gX7_field_X7_isNumber rfl rfl rfl (by decide +kernel) ⟨Nat.le_of_ble_eq_true rfl, Nat.le_of_ble_eq_true rfl⟩) ⟨fun a9 U g9 mk9 q9 => q9, fun U hU hW => ⟨rfl, congrArg Array.size hU⟩⟩ rfl rfl hl.1 rfl (lv_room (Nat.le_of_ble_eq_true rfl)) dX7_field_10 ⟨Nat.zero_le _, Nat.zero_le _⟩) hS (fun q _ h => hFc q h) hFc (fun r u t H1 locs ht hvm hw hB hz1 hk1 hS => ?_)
    have hP := wKp hP hk1
    subst hw
    generalize H1 = H at hP hS ⊢
    refine lv_if_ne (tgt := 18) hx hb dX7_field_13 (by decide) (fun c_4 => ?_) (fun c_4 => ?_)
    · have hok := okF hok c_4
      have hZ := rsF hZ c_4
      refine lv_aload_n hx hb dX7_field_18 rfl (lv_at hl 0 rfl) ?_
      refine va_get (D := (dC, dI)) (ci := 6) (v := .ref (a 1)) (C := RX7) (T := TX7) (N := 8) hx hb hts iX7_field_X7 hown hK hP 0 rfl rfl 0 (by decide) (hts (.fieldLink RX7 9 "RiskHouse" "fields" "[I") (by decide +kernel)) (fun _ h9 => h9) rfl dX7_field_19 ?_
      refine lv_iload_n hx hb dX7_field_22 rfl (lv_at hl 1 rfl) ?_
      refine lv_iload_n hx hb dX7_field_23 rfl (lv_at hl 2 rfl) ?_
      obtain ⟨h_5, hok⟩ := hok
      refine va_iast hx hb hK hP hD hS 1 0 rfl rfl h_5 dX7_field_24 (fun H locs hP hD hS => ?_)
      have hP : va_P (dC, dI) vwCl (cW cI cZ a (sA S 1 x1.toNatClampNeg x2)) H := hP
      have hD : va_D A (cW cI cZ a (sA S 1 x1.toNatClampNeg x2)) := hD
      refine lv_iconst (v := 1) hx hb dX7_field_25 (by decide) ?_
      exact W.zret (v := 1) hx hb hr rfl (fun t ht hW => ⟨⟨1, (sA S 1 x1.toNatClampNeg x2), rfl, hZ, by rw [ht]; exact hP, va_K.moved hW.alike hK, hD⟩, hS.F ht⟩) hS.2.2 dX7_field_26 hlocks
    · have hok := okT hok c_4
      have hZ := rsT hZ c_4
      exact w_X7_field_16 C0 hK hA Z S hok hZ _ _ hP hD hS _ (lv_sub hl [] rfl)
set_option maxHeartbeats 4000000 in
set_option maxRecDepth 100000 in
theorem c_X7_field (l : Launch) (dC : Nat → ClassId) (dI : Nat → Nat → Nat) (cI cZ : ClassId) (a : Nat → Nat) (sz : Nat) (S : St) (x1 : Int32) (x2 : Int32) (hok : ok_X7_field S x1 x2) : Met l yX7_field wsX7_field rm_X7_field (va_Pc [.ref (a 0), .int x1, .int x2] (cWP dC dI cI cZ a sz S)) (va_Qi (fun (r : Int32) (u : St) => (r, u) = rs_X7_field S x1 x2) (cWB dC dI cI cZ a (va_A (cW cI cZ a S) sz)) (va_A (cW cI cZ a S) sz)) 0 0 (va_A (cW cI cZ a S) sz) := by
  refine Met.ofW (cc := cX7_field) (maxL := 3) (ret := (some .boolean)) (by decide) rfl ?_
  intro p e s m args below meth c s₁ B hml hv
  obtain ⟨rfl, hsz, hP, hK, hD0⟩ := hv
  subst hsz
  have hD := hD0.self (sz := s.heap.size)
  have hl := lv_entry ([.ref (a 0), .int x1, .int x2]) (n := 3) (Nat.le_of_ble_eq_true rfl)
  rw [lg_entry_eq]
  generalize (lg_sl ([.ref (a 0), .int x1, .int x2]) ++ List.replicate (3 - (lg_sl ([.ref (a 0), .int x1, .int x2])).length) Slot.unset).toArray = ls at hl ⊢
  have hl : lv_has ls 3 [(0, .ref (a 0)), (1, .int x1), (2, .int x2)] := hl
  exact w_X7_field ⟨B.exec, B.bytes, B.returns, hml, findClass_of_methodNamed B.named, atoms_spec (ws := wsX7_field) B.pre, B.notSynchronized⟩ hK (fun q h => Or.inr h) _ S x1 x2 hok rfl _ _ hP hD va_S.rf ls hl
abbrev rm_X7_tape : Room := { frames := 1, cells := 0, slots := 0, locals := 21 }
theorem iX7_tape_X7 : ∀ w ∈ wsX70, w ∈ wsX7_tape := by decide +kernel
def rs_X7_tape_8 (S : St) (z0 : Int32) : Int32 × St := (z0, S)
def ok_X7_tape_8 (S : St) (z0 : Int32) : Prop := ((narrow .boolean (.int z0) = .int z0) ∧ True)
set_option maxHeartbeats 4000000 in
set_option maxRecDepth 100000 in
theorem w_X7_tape_8 {p : Program} {l : Launch} {e : Env} {s : State} {m : MethodId} {args : Array Value} {below : List Frame} {meth : Method} {c : Code} {dC : Nat → ClassId} {dI : Nat → Nat → Nat} {cI cZ : ClassId} {a : Nat → Nat} {A : Nat → Prop} (C0 : Cx p s m args meth c RX7 cX7_tape (some .boolean) 2 wsX7_tape) (hK : va_K (dC, dI) vwCl (tI cI cZ) s) (hA : ∀ q, s.heap.size ≤ q → A q) (Z : Int32 × St) (S : St) (z0 : Int32) (hok : ok_X7_tape_8 S z0) (hZ : rs_X7_tape_8 S z0 = Z) (H : Heap) (locs : List Loc) (hP : va_P (dC, dI) vwCl (cW cI cZ a S) H) (hD : va_D A (cW cI cZ a S)) (hS : va_S A s.heap H locs) (ls : Array Slot) (hl : lv_has ls 2 []) : W p l e rm_X7_tape s m args below meth c H locs 0 0 (MQ below (va_Qi (fun (r : Int32) (u : St) => (r, u) = Z) (cWB dC dI cI cZ a A) A) args s 0 0 A) (F0 m 8 ls [.int z0]) := by
  obtain ⟨hx, hb, hr, hml, hown, hts, hlocks⟩ := id C0
  rw [ok_X7_tape_8] at hok
  rw [rs_X7_tape_8] at hZ
  obtain ⟨h_1, hok⟩ := hok
  exact W.zret (v := z0) hx hb hr h_1 (fun t ht hW => ⟨⟨z0, S, rfl, hZ, by rw [ht]; exact hP, va_K.moved hW.alike hK, hD⟩, hS.F ht⟩) hS.2.2 dX7_tape_8 hlocks
def rs_X7_tape (S : St) (x1 : Int32) : Int32 × St := (rs_X7_tape_8 (rs_X6_append S x1).2 ((rs_X6_append S x1).1))
def ok_X7_tape (S : St) (x1 : Int32) : Prop := ((ok_X6_append S x1) ∧ ok_X7_tape_8 (rs_X6_append S x1).2 ((rs_X6_append S x1).1))
set_option maxHeartbeats 4000000 in
set_option maxRecDepth 100000 in
theorem w_X7_tape {p : Program} {l : Launch} {e : Env} {s : State} {m : MethodId} {args : Array Value} {below : List Frame} {meth : Method} {c : Code} {dC : Nat → ClassId} {dI : Nat → Nat → Nat} {cI cZ : ClassId} {a : Nat → Nat} {A : Nat → Prop} (C0 : Cx p s m args meth c RX7 cX7_tape (some .boolean) 2 wsX7_tape) (hK : va_K (dC, dI) vwCl (tI cI cZ) s) (hA : ∀ q, s.heap.size ≤ q → A q) (Z : Int32 × St) (S : St) (x1 : Int32) (hok : ok_X7_tape S x1) (hZ : rs_X7_tape S x1 = Z) (H : Heap) (locs : List Loc) (hP : va_P (dC, dI) vwCl (cW cI cZ a S) H) (hD : va_D A (cW cI cZ a S)) (hS : va_S A s.heap H locs) (ls : Array Slot) (hl : lv_has ls 2 [(0, .ref (a 0)), (1, .int x1)]) : W p l e rm_X7_tape s m args below meth c H locs 0 0 (MQ below (va_Qi (fun (r : Int32) (u : St) => (r, u) = Z) (cWB dC dI cI cZ a A) A) args s 0 0 A) (F0 m 0 ls []) := by
  obtain ⟨hx, hb, hr, hml, hown, hts, hlocks⟩ := id C0
  rw [ok_X7_tape] at hok
  rw [rs_X7_tape] at hZ
  refine lv_aload_n hx hb dX7_tape_0 rfl (lv_at hl 0 rfl) ?_
  refine va_get (D := (dC, dI)) (ci := 6) (v := .ref (a 15)) (C := RX7) (T := TX7) (N := 8) hx hb hts iX7_tape_X7 hown hK hP 0 rfl rfl 4 (by decide) (hts (.fieldLink RX7 33 "RiskHouse" "chances" "LRiskHouse$Tape;") (by decide +kernel)) (fun _ h9 => h9) rfl dX7_tape_1 ?_
  refine lv_iload_n hx hb dX7_tape_4 rfl (lv_at hl 1 rfl) ?_
  obtain ⟨k_1, hok⟩ := hok
  have hFc := wFw (w := cW cI cZ a S) hD hS hA
  refine va_calli (va_runV (As := [.int x1]) (rest := []) ⟨hx, hb, hml, hown, hts⟩ (c_X6_append l dC dI cI cZ a H.size S x1 k_1) (cwV 1 hts gX7_tape_X6_append rfl rfl rfl (by decide +kernel) ⟨Nat.le_of_ble_eq_true rfl, Nat.le_of_ble_eq_true rfl⟩) ⟨wBl, va_recv hK hP (ci := 5) (q0 := 15) rfl rfl, fun U hU hW => ⟨rfl, by rw [hU], by rw [hU]; exact hP, va_K.moved hW.alike hK, hD.weaken (fun _ _ _ _ => trivial)⟩⟩ rfl rfl hl.1 rfl (lv_room (Nat.le_of_ble_eq_true rfl)) dX7_tape_5 ⟨Nat.zero_le _, Nat.zero_le _⟩) hS (fun q _ h => hFc q h) hFc (fun r u t H1 locs ht hvm hw hB hz1 hk1 hS => ?_)
  obtain ⟨hP, hD⟩ := wJn ht hFc hB.1 hB.2.2
  have e1 : r = (rs_X6_append S x1).1 := congrArg Prod.fst hw
  have e2 : u = (rs_X6_append S x1).2 := congrArg Prod.snd hw
  rw [e1]
  rw [e2] at hP hD
  generalize H1 = H at hP hS ⊢
  exact w_X7_tape_8 C0 hK hA Z (rs_X6_append S x1).2 ((rs_X6_append S x1).1) hok hZ _ _ hP hD hS _ (lv_sub hl [] rfl)
set_option maxHeartbeats 4000000 in
set_option maxRecDepth 100000 in
theorem c_X7_tape (l : Launch) (dC : Nat → ClassId) (dI : Nat → Nat → Nat) (cI cZ : ClassId) (a : Nat → Nat) (sz : Nat) (S : St) (x1 : Int32) (hok : ok_X7_tape S x1) : Met l yX7_tape wsX7_tape rm_X7_tape (va_Pc [.ref (a 0), .int x1] (cWP dC dI cI cZ a sz S)) (va_Qi (fun (r : Int32) (u : St) => (r, u) = rs_X7_tape S x1) (cWB dC dI cI cZ a (va_A (cW cI cZ a S) sz)) (va_A (cW cI cZ a S) sz)) 0 0 (va_A (cW cI cZ a S) sz) := by
  refine Met.ofW (cc := cX7_tape) (maxL := 2) (ret := (some .boolean)) (by decide) rfl ?_
  intro p e s m args below meth c s₁ B hml hv
  obtain ⟨rfl, hsz, hP, hK, hD0⟩ := hv
  subst hsz
  have hD := hD0.self (sz := s.heap.size)
  have hl := lv_entry ([.ref (a 0), .int x1]) (n := 2) (Nat.le_of_ble_eq_true rfl)
  rw [lg_entry_eq]
  generalize (lg_sl ([.ref (a 0), .int x1]) ++ List.replicate (2 - (lg_sl ([.ref (a 0), .int x1])).length) Slot.unset).toArray = ls at hl ⊢
  have hl : lv_has ls 2 [(0, .ref (a 0)), (1, .int x1)] := hl
  exact w_X7_tape ⟨B.exec, B.bytes, B.returns, hml, findClass_of_methodNamed B.named, atoms_spec (ws := wsX7_tape) B.pre, B.notSynchronized⟩ hK (fun q h => Or.inr h) _ S x1 hok rfl _ _ hP hD va_S.rf ls hl
abbrev rm_X7_share : Room := { frames := 1, cells := 0, slots := 0, locals := 22 }
theorem iX7_share_X7 : ∀ w ∈ wsX70, w ∈ wsX7_share := by decide +kernel
def rs_X7_share_9 (S : St) (z0 : Int32) : Int32 × St := (z0, S)
def ok_X7_share_9 (S : St) (z0 : Int32) : Prop := ((narrow .boolean (.int z0) = .int z0) ∧ True)
set_option maxHeartbeats 4000000 in
set_option maxRecDepth 100000 in
theorem w_X7_share_9 {p : Program} {l : Launch} {e : Env} {s : State} {m : MethodId} {args : Array Value} {below : List Frame} {meth : Method} {c : Code} {dC : Nat → ClassId} {dI : Nat → Nat → Nat} {cI cZ : ClassId} {a : Nat → Nat} {A : Nat → Prop} (C0 : Cx p s m args meth c RX7 cX7_share (some .boolean) 3 wsX7_share) (hK : va_K (dC, dI) vwCl (tI cI cZ) s) (hA : ∀ q, s.heap.size ≤ q → A q) (Z : Int32 × St) (S : St) (z0 : Int32) (hok : ok_X7_share_9 S z0) (hZ : rs_X7_share_9 S z0 = Z) (H : Heap) (locs : List Loc) (hP : va_P (dC, dI) vwCl (cW cI cZ a S) H) (hD : va_D A (cW cI cZ a S)) (hS : va_S A s.heap H locs) (ls : Array Slot) (hl : lv_has ls 3 []) : W p l e rm_X7_share s m args below meth c H locs 0 0 (MQ below (va_Qi (fun (r : Int32) (u : St) => (r, u) = Z) (cWB dC dI cI cZ a A) A) args s 0 0 A) (F0 m 9 ls [.int z0]) := by
  obtain ⟨hx, hb, hr, hml, hown, hts, hlocks⟩ := id C0
  rw [ok_X7_share_9] at hok
  rw [rs_X7_share_9] at hZ
  obtain ⟨h_1, hok⟩ := hok
  exact W.zret (v := z0) hx hb hr h_1 (fun t ht hW => ⟨⟨z0, S, rfl, hZ, by rw [ht]; exact hP, va_K.moved hW.alike hK, hD⟩, hS.F ht⟩) hS.2.2 dX7_share_9 hlocks
def rs_X7_share (S : St) (x1 : Int32) (x2 : Int32) : Int32 × St := (rs_X7_share_9 (rs_X6_setShare S x1 x2).2 ((rs_X6_setShare S x1 x2).1))
def ok_X7_share (S : St) (x1 : Int32) (x2 : Int32) : Prop := ((ok_X6_setShare S x1 x2) ∧ ok_X7_share_9 (rs_X6_setShare S x1 x2).2 ((rs_X6_setShare S x1 x2).1))
set_option maxHeartbeats 4000000 in
set_option maxRecDepth 100000 in
theorem w_X7_share {p : Program} {l : Launch} {e : Env} {s : State} {m : MethodId} {args : Array Value} {below : List Frame} {meth : Method} {c : Code} {dC : Nat → ClassId} {dI : Nat → Nat → Nat} {cI cZ : ClassId} {a : Nat → Nat} {A : Nat → Prop} (C0 : Cx p s m args meth c RX7 cX7_share (some .boolean) 3 wsX7_share) (hK : va_K (dC, dI) vwCl (tI cI cZ) s) (hA : ∀ q, s.heap.size ≤ q → A q) (Z : Int32 × St) (S : St) (x1 : Int32) (x2 : Int32) (hok : ok_X7_share S x1 x2) (hZ : rs_X7_share S x1 x2 = Z) (H : Heap) (locs : List Loc) (hP : va_P (dC, dI) vwCl (cW cI cZ a S) H) (hD : va_D A (cW cI cZ a S)) (hS : va_S A s.heap H locs) (ls : Array Slot) (hl : lv_has ls 3 [(0, .ref (a 0)), (1, .int x1), (2, .int x2)]) : W p l e rm_X7_share s m args below meth c H locs 0 0 (MQ below (va_Qi (fun (r : Int32) (u : St) => (r, u) = Z) (cWB dC dI cI cZ a A) A) args s 0 0 A) (F0 m 0 ls []) := by
  obtain ⟨hx, hb, hr, hml, hown, hts, hlocks⟩ := id C0
  rw [ok_X7_share] at hok
  rw [rs_X7_share] at hZ
  refine lv_aload_n hx hb dX7_share_0 rfl (lv_at hl 0 rfl) ?_
  refine va_get (D := (dC, dI)) (ci := 6) (v := .ref (a 15)) (C := RX7) (T := TX7) (N := 8) hx hb hts iX7_share_X7 hown hK hP 0 rfl rfl 4 (by decide) (hts (.fieldLink RX7 33 "RiskHouse" "chances" "LRiskHouse$Tape;") (by decide +kernel)) (fun _ h9 => h9) rfl dX7_share_1 ?_
  refine lv_iload_n hx hb dX7_share_4 rfl (lv_at hl 1 rfl) ?_
  refine lv_iload_n hx hb dX7_share_5 rfl (lv_at hl 2 rfl) ?_
  obtain ⟨k_1, hok⟩ := hok
  have hFc := wFw (w := cW cI cZ a S) hD hS hA
  refine va_calli (va_runV (As := [.int x1, .int x2]) (rest := []) ⟨hx, hb, hml, hown, hts⟩ (c_X6_setShare l dC dI cI cZ a H.size S x1 x2 k_1) (cwV 2 hts gX7_share_X6_setShare rfl rfl rfl (by decide +kernel) ⟨Nat.le_of_ble_eq_true rfl, Nat.le_of_ble_eq_true rfl⟩) ⟨wBl, va_recv hK hP (ci := 5) (q0 := 15) rfl rfl, fun U hU hW => ⟨rfl, by rw [hU], by rw [hU]; exact hP, va_K.moved hW.alike hK, hD.weaken (fun _ _ _ _ => trivial)⟩⟩ rfl rfl hl.1 rfl (lv_room (Nat.le_of_ble_eq_true rfl)) dX7_share_6 ⟨Nat.zero_le _, Nat.zero_le _⟩) hS (fun q _ h => hFc q h) hFc (fun r u t H1 locs ht hvm hw hB hz1 hk1 hS => ?_)
  obtain ⟨hP, hD⟩ := wJn ht hFc hB.1 hB.2.2
  have e1 : r = (rs_X6_setShare S x1 x2).1 := congrArg Prod.fst hw
  have e2 : u = (rs_X6_setShare S x1 x2).2 := congrArg Prod.snd hw
  rw [e1]
  rw [e2] at hP hD
  generalize H1 = H at hP hS ⊢
  exact w_X7_share_9 C0 hK hA Z (rs_X6_setShare S x1 x2).2 ((rs_X6_setShare S x1 x2).1) hok hZ _ _ hP hD hS _ (lv_sub hl [] rfl)
set_option maxHeartbeats 4000000 in
set_option maxRecDepth 100000 in
theorem c_X7_share (l : Launch) (dC : Nat → ClassId) (dI : Nat → Nat → Nat) (cI cZ : ClassId) (a : Nat → Nat) (sz : Nat) (S : St) (x1 : Int32) (x2 : Int32) (hok : ok_X7_share S x1 x2) : Met l yX7_share wsX7_share rm_X7_share (va_Pc [.ref (a 0), .int x1, .int x2] (cWP dC dI cI cZ a sz S)) (va_Qi (fun (r : Int32) (u : St) => (r, u) = rs_X7_share S x1 x2) (cWB dC dI cI cZ a (va_A (cW cI cZ a S) sz)) (va_A (cW cI cZ a S) sz)) 0 0 (va_A (cW cI cZ a S) sz) := by
  refine Met.ofW (cc := cX7_share) (maxL := 3) (ret := (some .boolean)) (by decide) rfl ?_
  intro p e s m args below meth c s₁ B hml hv
  obtain ⟨rfl, hsz, hP, hK, hD0⟩ := hv
  subst hsz
  have hD := hD0.self (sz := s.heap.size)
  have hl := lv_entry ([.ref (a 0), .int x1, .int x2]) (n := 3) (Nat.le_of_ble_eq_true rfl)
  rw [lg_entry_eq]
  generalize (lg_sl ([.ref (a 0), .int x1, .int x2]) ++ List.replicate (3 - (lg_sl ([.ref (a 0), .int x1, .int x2])).length) Slot.unset).toArray = ls at hl ⊢
  have hl : lv_has ls 3 [(0, .ref (a 0)), (1, .int x1), (2, .int x2)] := hl
  exact w_X7_share ⟨B.exec, B.bytes, B.returns, hml, findClass_of_methodNamed B.named, atoms_spec (ws := wsX7_share) B.pre, B.notSynchronized⟩ hK (fun q h => Or.inr h) _ S x1 x2 hok rfl _ _ hP hD va_S.rf ls hl
abbrev rm_X7_cap : Room := { frames := 1, cells := 0, slots := 0, locals := 21 }
theorem iX7_cap_X7 : ∀ w ∈ wsX70, w ∈ wsX7_cap := by decide +kernel
def rs_X7_cap_18 (S : St)  : Int32 × St := (0, S)
def ok_X7_cap_18 (S : St)  : Prop := True
set_option maxHeartbeats 4000000 in
set_option maxRecDepth 100000 in
theorem w_X7_cap_18 {p : Program} {l : Launch} {e : Env} {s : State} {m : MethodId} {args : Array Value} {below : List Frame} {meth : Method} {c : Code} {dC : Nat → ClassId} {dI : Nat → Nat → Nat} {cI cZ : ClassId} {a : Nat → Nat} {A : Nat → Prop} (C0 : Cx p s m args meth c RX7 cX7_cap (some .boolean) 3 wsX7_cap) (hK : va_K (dC, dI) vwCl (tI cI cZ) s) (hA : ∀ q, s.heap.size ≤ q → A q) (Z : Int32 × St) (S : St)  (hok : ok_X7_cap_18 S) (hZ : rs_X7_cap_18 S = Z) (H : Heap) (locs : List Loc) (hP : va_P (dC, dI) vwCl (cW cI cZ a S) H) (hD : va_D A (cW cI cZ a S)) (hS : va_S A s.heap H locs) (ls : Array Slot) (hl : lv_has ls 3 []) : W p l e rm_X7_cap s m args below meth c H locs 0 0 (MQ below (va_Qi (fun (r : Int32) (u : St) => (r, u) = Z) (cWB dC dI cI cZ a A) A) args s 0 0 A) (F0 m 18 ls []) := by
  obtain ⟨hx, hb, hr, hml, hown, hts, hlocks⟩ := id C0
  rw [ok_X7_cap_18] at hok
  rw [rs_X7_cap_18] at hZ
  refine lv_iconst (v := 0) hx hb dX7_cap_18 (by decide) ?_
  exact W.zret (v := 0) hx hb hr rfl (fun t ht hW => ⟨⟨0, S, rfl, hZ, by rw [ht]; exact hP, va_K.moved hW.alike hK, hD⟩, hS.F ht⟩) hS.2.2 dX7_cap_19 hlocks
def rs_X7_cap (S : St) (x1 : Int32) (x2 : Int32) : Int32 × St := (if (rs_X7_isBelow x1 4) = 0 then (rs_X7_cap_18 S) else (if x2 < 0 then (rs_X7_cap_18 S) else (if x2 ≤ 20 then (1, (sA S 2 x1.toNatClampNeg x2)) else (rs_X7_cap_18 S))))
def ok_X7_cap (S : St) (x1 : Int32) (x2 : Int32) : Prop := ((ok_X7_isBelow x1 4) ∧ (if (rs_X7_isBelow x1 4) = 0 then ok_X7_cap_18 S else (if x2 < 0 then ok_X7_cap_18 S else (if x2 ≤ 20 then ((vp_in x1 4) ∧ True) else ok_X7_cap_18 S))))
set_option maxHeartbeats 4000000 in
set_option maxRecDepth 100000 in
theorem w_X7_cap {p : Program} {l : Launch} {e : Env} {s : State} {m : MethodId} {args : Array Value} {below : List Frame} {meth : Method} {c : Code} {dC : Nat → ClassId} {dI : Nat → Nat → Nat} {cI cZ : ClassId} {a : Nat → Nat} {A : Nat → Prop} (C0 : Cx p s m args meth c RX7 cX7_cap (some .boolean) 3 wsX7_cap) (hK : va_K (dC, dI) vwCl (tI cI cZ) s) (hA : ∀ q, s.heap.size ≤ q → A q) (Z : Int32 × St) (S : St) (x1 : Int32) (x2 : Int32) (hok : ok_X7_cap S x1 x2) (hZ : rs_X7_cap S x1 x2 = Z) (H : Heap) (locs : List Loc) (hP : va_P (dC, dI) vwCl (cW cI cZ a S) H) (hD : va_D A (cW cI cZ a S)) (hS : va_S A s.heap H locs) (ls : Array Slot) (hl : lv_has ls 3 [(0, .ref (a 0)), (1, .int x1), (2, .int x2)]) : W p l e rm_X7_cap s m args below meth c H locs 0 0 (MQ below (va_Qi (fun (r : Int32) (u : St) => (r, u) = Z) (cWB dC dI cI cZ a A) A) args s 0 0 A) (F0 m 0 ls []) := by
  obtain ⟨hx, hb, hr, hml, hown, hts, hlocks⟩ := id C0
  rw [ok_X7_cap] at hok
  rw [rs_X7_cap] at hZ
  refine lv_iload_n hx hb dX7_cap_0 rfl (lv_at hl 1 rfl) ?_
  refine lv_iconst (v := 4) hx hb dX7_cap_1 (by decide) ?_
  obtain ⟨k_1, hok⟩ := hok
  have hFc := wFr hS hA
  refine va_calli (va_runS (As := [.int x1, .int 4]) (rest := []) ⟨hx, hb, hml, hown, hts⟩ (c_X7_isBelow l H.size x1 4 k_1) (va_cwS 2 hts gX7_cap_X7_isBelow rfl rfl rfl (by decide +kernel) ⟨Nat.le_of_ble_eq_true rfl, Nat.le_of_ble_eq_true rfl⟩) ⟨fun a9 U g9 mk9 q9 => q9, fun U hU hW => ⟨rfl, congrArg Array.size hU⟩⟩ rfl rfl hl.1 rfl (lv_room (Nat.le_of_ble_eq_true rfl)) dX7_cap_2 ⟨Nat.zero_le _, Nat.zero_le _⟩) hS (fun q _ h => hFc q h) hFc (fun r u t H1 locs ht hvm hw hB hz1 hk1 hS => ?_)
  have hP := wKp hP hk1
  subst hw
  generalize H1 = H at hP hS ⊢
  refine lv_if_eq (tgt := 18) hx hb dX7_cap_5 (by decide) (fun c_2 => ?_) (fun c_2 => ?_)
  · have hok := okT hok c_2
    have hZ := rsT hZ c_2
    exact w_X7_cap_18 C0 hK hA Z S hok hZ _ _ hP hD hS _ (lv_sub hl [] rfl)
  · have hok := okF hok c_2
    have hZ := rsF hZ c_2
    refine lv_iload_n hx hb dX7_cap_8 rfl (lv_at hl 2 rfl) ?_
    refine lv_if_lt (tgt := 18) hx hb dX7_cap_9 (by decide) (fun c_3 => ?_) (fun c_3 => ?_)
    · have hok := okT hok c_3
      have hZ := rsT hZ c_3
      exact w_X7_cap_18 C0 hK hA Z S hok hZ _ _ hP hD hS _ (lv_sub hl [] rfl)
    · have hok := okF hok c_3
      have hZ := rsF hZ c_3
      refine lv_iload_n hx hb dX7_cap_12 rfl (lv_at hl 2 rfl) ?_
      refine lv_bipush (v := 20) hx hb dX7_cap_13 (by decide) ?_
      refine lv_icmp_le (tgt := 20) hx hb dX7_cap_15 (by decide) (fun c_4 => ?_) (fun c_4 => ?_)
      · have hok := okT hok c_4
        have hZ := rsT hZ c_4
        refine lv_aload_n hx hb dX7_cap_20 rfl (lv_at hl 0 rfl) ?_
        refine va_get (D := (dC, dI)) (ci := 6) (v := .ref (a 2)) (C := RX7) (T := TX7) (N := 8) hx hb hts iX7_cap_X7 hown hK hP 0 rfl rfl 1 (by decide) (hts (.fieldLink RX7 13 "RiskHouse" "caps" "[I") (by decide +kernel)) (fun _ h9 => h9) rfl dX7_cap_21 ?_
        refine lv_iload_n hx hb dX7_cap_24 rfl (lv_at hl 1 rfl) ?_
        refine lv_iload_n hx hb dX7_cap_25 rfl (lv_at hl 2 rfl) ?_
        obtain ⟨h_5, hok⟩ := hok
        refine va_iast hx hb hK hP hD hS 2 0 rfl rfl h_5 dX7_cap_26 (fun H locs hP hD hS => ?_)
        have hP : va_P (dC, dI) vwCl (cW cI cZ a (sA S 2 x1.toNatClampNeg x2)) H := hP
        have hD : va_D A (cW cI cZ a (sA S 2 x1.toNatClampNeg x2)) := hD
        refine lv_iconst (v := 1) hx hb dX7_cap_27 (by decide) ?_
        exact W.zret (v := 1) hx hb hr rfl (fun t ht hW => ⟨⟨1, (sA S 2 x1.toNatClampNeg x2), rfl, hZ, by rw [ht]; exact hP, va_K.moved hW.alike hK, hD⟩, hS.F ht⟩) hS.2.2 dX7_cap_28 hlocks
      · have hok := okF hok c_4
        have hZ := rsF hZ c_4
        exact w_X7_cap_18 C0 hK hA Z S hok hZ _ _ hP hD hS _ (lv_sub hl [] rfl)
set_option maxHeartbeats 4000000 in
set_option maxRecDepth 100000 in
theorem c_X7_cap (l : Launch) (dC : Nat → ClassId) (dI : Nat → Nat → Nat) (cI cZ : ClassId) (a : Nat → Nat) (sz : Nat) (S : St) (x1 : Int32) (x2 : Int32) (hok : ok_X7_cap S x1 x2) : Met l yX7_cap wsX7_cap rm_X7_cap (va_Pc [.ref (a 0), .int x1, .int x2] (cWP dC dI cI cZ a sz S)) (va_Qi (fun (r : Int32) (u : St) => (r, u) = rs_X7_cap S x1 x2) (cWB dC dI cI cZ a (va_A (cW cI cZ a S) sz)) (va_A (cW cI cZ a S) sz)) 0 0 (va_A (cW cI cZ a S) sz) := by
  refine Met.ofW (cc := cX7_cap) (maxL := 3) (ret := (some .boolean)) (by decide) rfl ?_
  intro p e s m args below meth c s₁ B hml hv
  obtain ⟨rfl, hsz, hP, hK, hD0⟩ := hv
  subst hsz
  have hD := hD0.self (sz := s.heap.size)
  have hl := lv_entry ([.ref (a 0), .int x1, .int x2]) (n := 3) (Nat.le_of_ble_eq_true rfl)
  rw [lg_entry_eq]
  generalize (lg_sl ([.ref (a 0), .int x1, .int x2]) ++ List.replicate (3 - (lg_sl ([.ref (a 0), .int x1, .int x2])).length) Slot.unset).toArray = ls at hl ⊢
  have hl : lv_has ls 3 [(0, .ref (a 0)), (1, .int x1), (2, .int x2)] := hl
  exact w_X7_cap ⟨B.exec, B.bytes, B.returns, hml, findClass_of_methodNamed B.named, atoms_spec (ws := wsX7_cap) B.pre, B.notSynchronized⟩ hK (fun q h => Or.inr h) _ S x1 x2 hok rfl _ _ hP hD va_S.rf ls hl
abbrev rm_X7_count : Room := { frames := 2, cells := 0, slots := 0, locals := 42 }
theorem iX7_count_X0 : ∀ w ∈ wsX00, w ∈ wsX7_count := by decide +kernel
theorem iX7_count_X3 : ∀ w ∈ wsX30, w ∈ wsX7_count := by decide +kernel
theorem iX7_count_X5 : ∀ w ∈ wsX50, w ∈ wsX7_count := by decide +kernel
theorem iX7_count_X7 : ∀ w ∈ wsX70, w ∈ wsX7_count := by decide +kernel
def rs_X7_count_67 (S : St) (z0 : Int32) : Int32 × St := (z0, S)
def ok_X7_count_67 (S : St) (z0 : Int32) : Prop := True
set_option maxHeartbeats 4000000 in
set_option maxRecDepth 100000 in
theorem w_X7_count_67 {p : Program} {l : Launch} {e : Env} {s : State} {m : MethodId} {args : Array Value} {below : List Frame} {meth : Method} {c : Code} {dC : Nat → ClassId} {dI : Nat → Nat → Nat} {cI cZ : ClassId} {a : Nat → Nat} {A : Nat → Prop} (C0 : Cx p s m args meth c RX7 cX7_count (some .int) 2 wsX7_count) (hK : va_K (dC, dI) vwCl (tI cI cZ) s) (hA : ∀ q, s.heap.size ≤ q → A q) (Z : Int32 × St) (S : St) (z0 : Int32) (hok : ok_X7_count_67 S z0) (hZ : rs_X7_count_67 S z0 = Z) (H : Heap) (locs : List Loc) (hP : va_P (dC, dI) vwCl (cW cI cZ a S) H) (hD : va_D A (cW cI cZ a S)) (hS : va_S A s.heap H locs) (ls : Array Slot) (hl : lv_has ls 2 []) : W p l e rm_X7_count s m args below meth c H locs 0 0 (MQ below (va_Qi (fun (r : Int32) (u : St) => (r, u) = Z) (cWB dC dI cI cZ a A) A) args s 0 0 A) (F0 m 67 ls [.int z0]) := by
  obtain ⟨hx, hb, hr, hml, hown, hts, hlocks⟩ := id C0
  rw [ok_X7_count_67] at hok
  rw [rs_X7_count_67] at hZ
  exact W.iret (v := z0) hx hb hr (fun t ht hW => ⟨⟨z0, S, rfl, hZ, by rw [ht]; exact hP, va_K.moved hW.alike hK, hD⟩, hS.F ht⟩) hS.2.2 dX7_count_67 hlocks
def rs_X7_count_84 (S : St) (z0 : Int32) : Int32 × St := (z0, S)
def ok_X7_count_84 (S : St) (z0 : Int32) : Prop := True
set_option maxHeartbeats 4000000 in
set_option maxRecDepth 100000 in
theorem w_X7_count_84 {p : Program} {l : Launch} {e : Env} {s : State} {m : MethodId} {args : Array Value} {below : List Frame} {meth : Method} {c : Code} {dC : Nat → ClassId} {dI : Nat → Nat → Nat} {cI cZ : ClassId} {a : Nat → Nat} {A : Nat → Prop} (C0 : Cx p s m args meth c RX7 cX7_count (some .int) 2 wsX7_count) (hK : va_K (dC, dI) vwCl (tI cI cZ) s) (hA : ∀ q, s.heap.size ≤ q → A q) (Z : Int32 × St) (S : St) (z0 : Int32) (hok : ok_X7_count_84 S z0) (hZ : rs_X7_count_84 S z0 = Z) (H : Heap) (locs : List Loc) (hP : va_P (dC, dI) vwCl (cW cI cZ a S) H) (hD : va_D A (cW cI cZ a S)) (hS : va_S A s.heap H locs) (ls : Array Slot) (hl : lv_has ls 2 []) : W p l e rm_X7_count s m args below meth c H locs 0 0 (MQ below (va_Qi (fun (r : Int32) (u : St) => (r, u) = Z) (cWB dC dI cI cZ a A) A) args s 0 0 A) (F0 m 84 ls [.int z0]) := by
  obtain ⟨hx, hb, hr, hml, hown, hts, hlocks⟩ := id C0
  rw [ok_X7_count_84] at hok
  rw [rs_X7_count_84] at hZ
  exact W.iret (v := z0) hx hb hr (fun t ht hW => ⟨⟨z0, S, rfl, hZ, by rw [ht]; exact hP, va_K.moved hW.alike hK, hD⟩, hS.F ht⟩) hS.2.2 dX7_count_84 hlocks
def rs_X7_count (S : St) (x1 : Int32) : Int32 × St := (if x1 = 0 then ((S.1 127), S) else (if x1 = 1 then ((S.1 686), S) else (if x1 = 2 then ((S.1 961), S) else (if x1 = 3 then (rs_X7_count_67 (rs_X6_left S).2 ((rs_X6_left S).1)) else (if x1 = 4 then ((S.1 687), S) else (rs_X7_count_84 (rs_X7_fieldValue S (x1 - 10)).2 ((rs_X7_fieldValue S (x1 - 10)).1)))))))
def ok_X7_count (S : St) (x1 : Int32) : Prop := (if x1 = 0 then True else (if x1 = 1 then True else (if x1 = 2 then True else (if x1 = 3 then ((ok_X6_left S ) ∧ ok_X7_count_67 (rs_X6_left S).2 ((rs_X6_left S).1)) else (if x1 = 4 then True else ((ok_X7_fieldValue S (x1 - 10)) ∧ ok_X7_count_84 (rs_X7_fieldValue S (x1 - 10)).2 ((rs_X7_fieldValue S (x1 - 10)).1)))))))
set_option maxHeartbeats 4000000 in
set_option maxRecDepth 100000 in
theorem w_X7_count {p : Program} {l : Launch} {e : Env} {s : State} {m : MethodId} {args : Array Value} {below : List Frame} {meth : Method} {c : Code} {dC : Nat → ClassId} {dI : Nat → Nat → Nat} {cI cZ : ClassId} {a : Nat → Nat} {A : Nat → Prop} (C0 : Cx p s m args meth c RX7 cX7_count (some .int) 2 wsX7_count) (hK : va_K (dC, dI) vwCl (tI cI cZ) s) (hA : ∀ q, s.heap.size ≤ q → A q) (Z : Int32 × St) (S : St) (x1 : Int32) (hok : ok_X7_count S x1) (hZ : rs_X7_count S x1 = Z) (H : Heap) (locs : List Loc) (hP : va_P (dC, dI) vwCl (cW cI cZ a S) H) (hD : va_D A (cW cI cZ a S)) (hS : va_S A s.heap H locs) (ls : Array Slot) (hl : lv_has ls 2 [(0, .ref (a 0)), (1, .int x1)]) : W p l e rm_X7_count s m args below meth c H locs 0 0 (MQ below (va_Qi (fun (r : Int32) (u : St) => (r, u) = Z) (cWB dC dI cI cZ a A) A) args s 0 0 A) (F0 m 0 ls []) := by
  obtain ⟨hx, hb, hr, hml, hown, hts, hlocks⟩ := id C0
  rw [ok_X7_count] at hok
  rw [rs_X7_count] at hZ
  refine lv_iload_n hx hb dX7_count_0 rfl (lv_at hl 1 rfl) ?_
  by_cases c_3_k0 : x1 = 0
  · have hok := okT hok c_3_k0
    have hZ := rsT hZ c_3_k0
    refine lv_tableIn (off := 35) (tgt := 36) hx hb dX7_count_1 (by rw [c_3_k0]; decide) (by rw [c_3_k0]; decide) (by rw [c_3_k0]; rfl) (by decide) ?_
    refine lv_aload_n hx hb dX7_count_36 rfl (lv_at hl 0 rfl) ?_
    refine va_get (D := (dC, dI)) (ci := 6) (v := .ref (a 3)) (C := RX7) (T := TX7) (N := 8) hx hb hts iX7_count_X7 hown hK hP 0 rfl rfl 2 (by decide) (hts (.fieldLink RX7 19 "RiskHouse" "rules" "LRiskHouse$Rules;") (by decide +kernel)) (fun _ h9 => h9) rfl dX7_count_37 ?_
    refine va_get (D := (dC, dI)) (ci := 4) (v := .int (S.1 127)) (C := RX5) (T := TX5) (N := 8) hx hb hts iX7_count_X5 hown hK hP 3 rfl rfl 7 (by decide) (hts (.fieldLink RX7 87 "RiskHouse$Rules" "size" "I") (by decide +kernel)) (fun _ h9 => h9) rfl dX7_count_40 ?_
    exact W.iret (v := (S.1 127)) hx hb hr (fun t ht hW => ⟨⟨(S.1 127), S, rfl, hZ, by rw [ht]; exact hP, va_K.moved hW.alike hK, hD⟩, hS.F ht⟩) hS.2.2 dX7_count_43 hlocks
  · have hok := okF hok c_3_k0
    have hZ := rsF hZ c_3_k0
    by_cases c_3_k1 : x1 = 1
    · have hok := okT hok c_3_k1
      have hZ := rsT hZ c_3_k1
      refine lv_tableIn (off := 43) (tgt := 44) hx hb dX7_count_1 (by rw [c_3_k1]; decide) (by rw [c_3_k1]; decide) (by rw [c_3_k1]; rfl) (by decide) ?_
      refine lv_aload_n hx hb dX7_count_44 rfl (lv_at hl 0 rfl) ?_
      refine va_get (D := (dC, dI)) (ci := 6) (v := .ref (a 17)) (C := RX7) (T := TX7) (N := 8) hx hb hts iX7_count_X7 hown hK hP 0 rfl rfl 5 (by decide) (hts (.fieldLink RX7 40 "RiskHouse" "cases" "LRiskHouse$Cases;") (by decide +kernel)) (fun _ h9 => h9) rfl dX7_count_45 ?_
      refine va_get (D := (dC, dI)) (ci := 0) (v := .int (S.1 686)) (C := RX0) (T := TX0) (N := 8) hx hb hts iX7_count_X0 hown hK hP 17 rfl rfl 6 (by decide) (hts (.fieldLink RX7 133 "RiskHouse$Cases" "size" "I") (by decide +kernel)) (fun _ h9 => h9) rfl dX7_count_48 ?_
      exact W.iret (v := (S.1 686)) hx hb hr (fun t ht hW => ⟨⟨(S.1 686), S, rfl, hZ, by rw [ht]; exact hP, va_K.moved hW.alike hK, hD⟩, hS.F ht⟩) hS.2.2 dX7_count_51 hlocks
    · have hok := okF hok c_3_k1
      have hZ := rsF hZ c_3_k1
      by_cases c_3_k2 : x1 = 2
      · have hok := okT hok c_3_k2
        have hZ := rsT hZ c_3_k2
        refine lv_tableIn (off := 51) (tgt := 52) hx hb dX7_count_1 (by rw [c_3_k2]; decide) (by rw [c_3_k2]; decide) (by rw [c_3_k2]; rfl) (by decide) ?_
        refine lv_aload_n hx hb dX7_count_52 rfl (lv_at hl 0 rfl) ?_
        refine va_get (D := (dC, dI)) (ci := 6) (v := .ref (a 24)) (C := RX7) (T := TX7) (N := 8) hx hb hts iX7_count_X7 hown hK hP 0 rfl rfl 6 (by decide) (hts (.fieldLink RX7 47 "RiskHouse" "failures" "LRiskHouse$Failures;") (by decide +kernel)) (fun _ h9 => h9) rfl dX7_count_53 ?_
        refine va_get (D := (dC, dI)) (ci := 2) (v := .int (S.1 961)) (C := RX3) (T := TX3) (N := 2) hx hb hts iX7_count_X3 hown hK hP 24 rfl rfl 1 (by decide) (hts (.fieldLink RX7 185 "RiskHouse$Failures" "told" "I") (by decide +kernel)) (fun _ h9 => h9) rfl dX7_count_56 ?_
        exact W.iret (v := (S.1 961)) hx hb hr (fun t ht hW => ⟨⟨(S.1 961), S, rfl, hZ, by rw [ht]; exact hP, va_K.moved hW.alike hK, hD⟩, hS.F ht⟩) hS.2.2 dX7_count_59 hlocks
      · have hok := okF hok c_3_k2
        have hZ := rsF hZ c_3_k2
        by_cases c_3_k3 : x1 = 3
        · have hok := okT hok c_3_k3
          have hZ := rsT hZ c_3_k3
          refine lv_tableIn (off := 59) (tgt := 60) hx hb dX7_count_1 (by rw [c_3_k3]; decide) (by rw [c_3_k3]; decide) (by rw [c_3_k3]; rfl) (by decide) ?_
          refine lv_aload_n hx hb dX7_count_60 rfl (lv_at hl 0 rfl) ?_
          refine va_get (D := (dC, dI)) (ci := 6) (v := .ref (a 15)) (C := RX7) (T := TX7) (N := 8) hx hb hts iX7_count_X7 hown hK hP 0 rfl rfl 4 (by decide) (hts (.fieldLink RX7 33 "RiskHouse" "chances" "LRiskHouse$Tape;") (by decide +kernel)) (fun _ h9 => h9) rfl dX7_count_61 ?_
          obtain ⟨k_1, hok⟩ := hok
          have hFc := wFw (w := cW cI cZ a S) hD hS hA
          refine va_calli (va_runV (As := []) (rest := []) ⟨hx, hb, hml, hown, hts⟩ (c_X6_left l dC dI cI cZ a H.size S  k_1) (cwV 0 hts gX7_count_X6_left rfl rfl rfl (by decide +kernel) ⟨Nat.le_of_ble_eq_true rfl, Nat.le_of_ble_eq_true rfl⟩) ⟨wBl, va_recv hK hP (ci := 5) (q0 := 15) rfl rfl, fun U hU hW => ⟨rfl, by rw [hU], by rw [hU]; exact hP, va_K.moved hW.alike hK, hD.weaken (fun _ _ _ _ => trivial)⟩⟩ rfl rfl hl.1 rfl (lv_room (Nat.le_of_ble_eq_true rfl)) dX7_count_64 ⟨Nat.zero_le _, Nat.zero_le _⟩) hS (fun q _ h => hFc q h) hFc (fun r u t H1 locs ht hvm hw hB hz1 hk1 hS => ?_)
          obtain ⟨hP, hD⟩ := wJn ht hFc hB.1 hB.2.2
          have e1 : r = (rs_X6_left S).1 := congrArg Prod.fst hw
          have e2 : u = (rs_X6_left S).2 := congrArg Prod.snd hw
          rw [e1]
          rw [e2] at hP hD
          generalize H1 = H at hP hS ⊢
          exact w_X7_count_67 C0 hK hA Z (rs_X6_left S).2 ((rs_X6_left S).1) hok hZ _ _ hP hD hS _ (lv_sub hl [] rfl)
        · have hok := okF hok c_3_k3
          have hZ := rsF hZ c_3_k3
          by_cases c_3_k4 : x1 = 4
          · have hok := okT hok c_3_k4
            have hZ := rsT hZ c_3_k4
            refine lv_tableIn (off := 67) (tgt := 68) hx hb dX7_count_1 (by rw [c_3_k4]; decide) (by rw [c_3_k4]; decide) (by rw [c_3_k4]; rfl) (by decide) ?_
            refine lv_aload_n hx hb dX7_count_68 rfl (lv_at hl 0 rfl) ?_
            refine va_get (D := (dC, dI)) (ci := 6) (v := .ref (a 17)) (C := RX7) (T := TX7) (N := 8) hx hb hts iX7_count_X7 hown hK hP 0 rfl rfl 5 (by decide) (hts (.fieldLink RX7 40 "RiskHouse" "cases" "LRiskHouse$Cases;") (by decide +kernel)) (fun _ h9 => h9) rfl dX7_count_69 ?_
            refine va_get (D := (dC, dI)) (ci := 0) (v := .int (S.1 687)) (C := RX0) (T := TX0) (N := 8) hx hb hts iX7_count_X0 hown hK hP 17 rfl rfl 7 (by decide) (hts (.fieldLink RX7 191 "RiskHouse$Cases" "closed" "I") (by decide +kernel)) (fun _ h9 => h9) rfl dX7_count_72 ?_
            exact W.iret (v := (S.1 687)) hx hb hr (fun t ht hW => ⟨⟨(S.1 687), S, rfl, hZ, by rw [ht]; exact hP, va_K.moved hW.alike hK, hD⟩, hS.F ht⟩) hS.2.2 dX7_count_75 hlocks
          · have hok := okF hok c_3_k4
            have hZ := rsF hZ c_3_k4
            refine lv_tableOut (tgt := 76) hx hb dX7_count_1 (by have q0 := lv_neT (a := 0) c_3_k0 (by decide); have q1 := lv_neT (a := 1) c_3_k1 (by decide); have q2 := lv_neT (a := 2) c_3_k2 (by decide); have q3 := lv_neT (a := 3) c_3_k3 (by decide); have q4 := lv_neT (a := 4) c_3_k4 (by decide); omega) (by decide) ?_
            refine lv_aload_n hx hb dX7_count_76 rfl (lv_at hl 0 rfl) ?_
            refine lv_iload_n hx hb dX7_count_77 rfl (lv_at hl 1 rfl) ?_
            refine lv_bipush (v := 10) hx hb dX7_count_78 (by decide) ?_
            refine lv_isub hx hb dX7_count_80 ?_
            obtain ⟨k_2, hok⟩ := hok
            have hFc := wFw (w := cW cI cZ a S) hD hS hA
            refine va_calli (va_runV (As := [.int (x1 - 10)]) (rest := []) ⟨hx, hb, hml, hown, hts⟩ (c_X7_fieldValue l dC dI cI cZ a H.size S (x1 - 10) k_2) (cwV 1 hts gX7_count_X7_fieldValue rfl rfl rfl (by decide +kernel) ⟨Nat.le_of_ble_eq_true rfl, Nat.le_of_ble_eq_true rfl⟩) ⟨wBl, va_recv hK hP (ci := 6) (q0 := 0) rfl rfl, fun U hU hW => ⟨rfl, by rw [hU], by rw [hU]; exact hP, va_K.moved hW.alike hK, hD.weaken (fun _ _ _ _ => trivial)⟩⟩ rfl rfl hl.1 rfl (lv_room (Nat.le_of_ble_eq_true rfl)) dX7_count_81 ⟨Nat.zero_le _, Nat.zero_le _⟩) hS (fun q _ h => hFc q h) hFc (fun r u t H1 locs ht hvm hw hB hz1 hk1 hS => ?_)
            obtain ⟨hP, hD⟩ := wJn ht hFc hB.1 hB.2.2
            have e1 : r = (rs_X7_fieldValue S (x1 - 10)).1 := congrArg Prod.fst hw
            have e2 : u = (rs_X7_fieldValue S (x1 - 10)).2 := congrArg Prod.snd hw
            rw [e1]
            rw [e2] at hP hD
            generalize H1 = H at hP hS ⊢
            exact w_X7_count_84 C0 hK hA Z (rs_X7_fieldValue S (x1 - 10)).2 ((rs_X7_fieldValue S (x1 - 10)).1) hok hZ _ _ hP hD hS _ (lv_sub hl [] rfl)
set_option maxHeartbeats 4000000 in
set_option maxRecDepth 100000 in
theorem c_X7_count (l : Launch) (dC : Nat → ClassId) (dI : Nat → Nat → Nat) (cI cZ : ClassId) (a : Nat → Nat) (sz : Nat) (S : St) (x1 : Int32) (hok : ok_X7_count S x1) : Met l yX7_count wsX7_count rm_X7_count (va_Pc [.ref (a 0), .int x1] (cWP dC dI cI cZ a sz S)) (va_Qi (fun (r : Int32) (u : St) => (r, u) = rs_X7_count S x1) (cWB dC dI cI cZ a (va_A (cW cI cZ a S) sz)) (va_A (cW cI cZ a S) sz)) 0 0 (va_A (cW cI cZ a S) sz) := by
  refine Met.ofW (cc := cX7_count) (maxL := 2) (ret := (some .int)) (by decide) rfl ?_
  intro p e s m args below meth c s₁ B hml hv
  obtain ⟨rfl, hsz, hP, hK, hD0⟩ := hv
  subst hsz
  have hD := hD0.self (sz := s.heap.size)
  have hl := lv_entry ([.ref (a 0), .int x1]) (n := 2) (Nat.le_of_ble_eq_true rfl)
  rw [lg_entry_eq]
  generalize (lg_sl ([.ref (a 0), .int x1]) ++ List.replicate (2 - (lg_sl ([.ref (a 0), .int x1])).length) Slot.unset).toArray = ls at hl ⊢
  have hl : lv_has ls 2 [(0, .ref (a 0)), (1, .int x1)] := hl
  exact w_X7_count ⟨B.exec, B.bytes, B.returns, hml, findClass_of_methodNamed B.named, atoms_spec (ws := wsX7_count) B.pre, B.notSynchronized⟩ hK (fun q h => Or.inr h) _ S x1 hok rfl _ _ hP hD va_S.rf ls hl
abbrev rm_X7_runRule : Room := { frames := 4, cells := 0, slots := 0, locals := 97 }
theorem iX7_runRule_X0 : ∀ w ∈ wsX00, w ∈ wsX7_runRule := by decide +kernel
theorem iX7_runRule_X2 : ∀ w ∈ wsX20, w ∈ wsX7_runRule := by decide +kernel
theorem iX7_runRule_X4 : ∀ w ∈ wsX40, w ∈ wsX7_runRule := by decide +kernel
theorem iX7_runRule_X5 : ∀ w ∈ wsX50, w ∈ wsX7_runRule := by decide +kernel
theorem iX7_runRule_X7 : ∀ w ∈ wsX70, w ∈ wsX7_runRule := by decide +kernel
def rs_X7_runRule_72 (S : St) (x1 : Int32) (x2 : Int32) : Int32 × St := (0, (sA S 23 x2.toNatClampNeg (((S.2 23) x2.toNatClampNeg) ||| (1 <<< (x1 &&& 31)))))
def ok_X7_runRule_72 (S : St) (x1 : Int32) (x2 : Int32) : Prop := ((vp_in x2 40) ∧ ((vp_in x2 40) ∧ True))
set_option maxHeartbeats 4000000 in
set_option maxRecDepth 100000 in
theorem w_X7_runRule_72 {p : Program} {l : Launch} {e : Env} {s : State} {m : MethodId} {args : Array Value} {below : List Frame} {meth : Method} {c : Code} {dC : Nat → ClassId} {dI : Nat → Nat → Nat} {cI cZ : ClassId} {a : Nat → Nat} {A : Nat → Prop} (C0 : Cx p s m args meth c RX7 cX7_runRule (some .boolean) 3 wsX7_runRule) (hK : va_K (dC, dI) vwCl (tI cI cZ) s) (hA : ∀ q, s.heap.size ≤ q → A q) (Z : Int32 × St) (S : St) (x1 : Int32) (x2 : Int32) (hok : ok_X7_runRule_72 S x1 x2) (hZ : rs_X7_runRule_72 S x1 x2 = Z) (H : Heap) (locs : List Loc) (hP : va_P (dC, dI) vwCl (cW cI cZ a S) H) (hD : va_D A (cW cI cZ a S)) (hS : va_S A s.heap H locs) (ls : Array Slot) (hl : lv_has ls 3 [(0, .ref (a 0)), (1, .int x1), (2, .int x2)]) : W p l e rm_X7_runRule s m args below meth c H locs 0 0 (MQ below (va_Qi (fun (r : Int32) (u : St) => (r, u) = Z) (cWB dC dI cI cZ a A) A) args s 0 0 A) (F0 m 72 ls []) := by
  obtain ⟨hx, hb, hr, hml, hown, hts, hlocks⟩ := id C0
  rw [ok_X7_runRule_72] at hok
  rw [rs_X7_runRule_72] at hZ
  refine lv_aload_n hx hb dX7_runRule_72 rfl (lv_at hl 0 rfl) ?_
  refine va_get (D := (dC, dI)) (ci := 6) (v := .ref (a 17)) (C := RX7) (T := TX7) (N := 8) hx hb hts iX7_runRule_X7 hown hK hP 0 rfl rfl 5 (by decide) (hts (.fieldLink RX7 40 "RiskHouse" "cases" "LRiskHouse$Cases;") (by decide +kernel)) (fun _ h9 => h9) rfl dX7_runRule_73 ?_
  refine va_get (D := (dC, dI)) (ci := 0) (v := .ref (a 23)) (C := RX0) (T := TX0) (N := 8) hx hb hts iX7_runRule_X0 hown hK hP 17 rfl rfl 5 (by decide) (hts (.fieldLink RX7 240 "RiskHouse$Cases" "failedRules" "[I") (by decide +kernel)) (fun _ h9 => h9) rfl dX7_runRule_76 ?_
  refine lv_iload_n hx hb dX7_runRule_79 rfl (lv_at hl 2 rfl) ?_
  refine lv_dup2_11 hx hb dX7_runRule_80 rfl rfl ?_
  obtain ⟨h_1, hok⟩ := hok
  refine va_iald (f := (S.2 23)) hx hb hK hP 23 0 rfl rfl h_1 dX7_runRule_81 ?_
  refine lv_iconst (v := 1) hx hb dX7_runRule_82 (by decide) ?_
  refine lv_iload_n hx hb dX7_runRule_83 rfl (lv_at hl 1 rfl) ?_
  refine lv_ishl hx hb dX7_runRule_84 ?_
  refine lv_ior hx hb dX7_runRule_85 ?_
  obtain ⟨h_2, hok⟩ := hok
  refine va_iast hx hb hK hP hD hS 23 0 rfl rfl h_2 dX7_runRule_86 (fun H locs hP hD hS => ?_)
  have hP : va_P (dC, dI) vwCl (cW cI cZ a (sA S 23 x2.toNatClampNeg (((S.2 23) x2.toNatClampNeg) ||| (1 <<< (x1 &&& 31))))) H := hP
  have hD : va_D A (cW cI cZ a (sA S 23 x2.toNatClampNeg (((S.2 23) x2.toNatClampNeg) ||| (1 <<< (x1 &&& 31))))) := hD
  refine lv_iconst (v := 0) hx hb dX7_runRule_87 (by decide) ?_
  exact W.zret (v := 0) hx hb hr rfl (fun t ht hW => ⟨⟨0, (sA S 23 x2.toNatClampNeg (((S.2 23) x2.toNatClampNeg) ||| (1 <<< (x1 &&& 31)))), rfl, hZ, by rw [ht]; exact hP, va_K.moved hW.alike hK, hD⟩, hS.F ht⟩) hS.2.2 dX7_runRule_88 hlocks
def rs_X7_runRule_104 (S : St) (z1 : Int32) (z2 : Int32) : Int32 × St := (1, (sA S 7 z1.toNatClampNeg z2))
def ok_X7_runRule_104 (S : St) (z1 : Int32) (z2 : Int32) : Prop := ((vp_in z1 12) ∧ True)
set_option maxHeartbeats 4000000 in
set_option maxRecDepth 100000 in
theorem w_X7_runRule_104 {p : Program} {l : Launch} {e : Env} {s : State} {m : MethodId} {args : Array Value} {below : List Frame} {meth : Method} {c : Code} {dC : Nat → ClassId} {dI : Nat → Nat → Nat} {cI cZ : ClassId} {a : Nat → Nat} {A : Nat → Prop} (C0 : Cx p s m args meth c RX7 cX7_runRule (some .boolean) 3 wsX7_runRule) (hK : va_K (dC, dI) vwCl (tI cI cZ) s) (hA : ∀ q, s.heap.size ≤ q → A q) (Z : Int32 × St) (S : St) (z1 : Int32) (z2 : Int32) (hok : ok_X7_runRule_104 S z1 z2) (hZ : rs_X7_runRule_104 S z1 z2 = Z) (H : Heap) (locs : List Loc) (hP : va_P (dC, dI) vwCl (cW cI cZ a S) H) (hD : va_D A (cW cI cZ a S)) (hS : va_S A s.heap H locs) (ls : Array Slot) (hl : lv_has ls 3 []) : W p l e rm_X7_runRule s m args below meth c H locs 0 0 (MQ below (va_Qi (fun (r : Int32) (u : St) => (r, u) = Z) (cWB dC dI cI cZ a A) A) args s 0 0 A) (F0 m 104 ls [.int z2, .int z1, .ref (a 7)]) := by
  obtain ⟨hx, hb, hr, hml, hown, hts, hlocks⟩ := id C0
  rw [ok_X7_runRule_104] at hok
  rw [rs_X7_runRule_104] at hZ
  obtain ⟨h_1, hok⟩ := hok
  refine va_iast hx hb hK hP hD hS 7 0 rfl rfl h_1 dX7_runRule_104 (fun H locs hP hD hS => ?_)
  have hP : va_P (dC, dI) vwCl (cW cI cZ a (sA S 7 z1.toNatClampNeg z2)) H := hP
  have hD : va_D A (cW cI cZ a (sA S 7 z1.toNatClampNeg z2)) := hD
  refine lv_iconst (v := 1) hx hb dX7_runRule_105 (by decide) ?_
  exact W.zret (v := 1) hx hb hr rfl (fun t ht hW => ⟨⟨1, (sA S 7 z1.toNatClampNeg z2), rfl, hZ, by rw [ht]; exact hP, va_K.moved hW.alike hK, hD⟩, hS.F ht⟩) hS.2.2 dX7_runRule_106 hlocks
def rs_X7_runRule_23 (S : St) (x1 : Int32) (x2 : Int32) : Int32 × St := (if (S.1 1045) = 0 then (rs_X7_runRule_104 (rs_X4_top (sA S 8 x1.toNatClampNeg (S.1 1044))).2 x1 ((rs_X4_top (sA S 8 x1.toNatClampNeg (S.1 1044))).1)) else (rs_X7_runRule_72 (rs_X3_tell (sA S 8 x1.toNatClampNeg (S.1 1044)) x1 (S.1 1045) (S.1 1043) x2) x1 x2))
def ok_X7_runRule_23 (S : St) (x1 : Int32) (x2 : Int32) : Prop := ((vp_in x1 12) ∧ (if (S.1 1045) = 0 then ((ok_X4_top (sA S 8 x1.toNatClampNeg (S.1 1044)) ) ∧ ok_X7_runRule_104 (rs_X4_top (sA S 8 x1.toNatClampNeg (S.1 1044))).2 x1 ((rs_X4_top (sA S 8 x1.toNatClampNeg (S.1 1044))).1)) else ((ok_X3_tell (sA S 8 x1.toNatClampNeg (S.1 1044)) x1 (S.1 1045) (S.1 1043) x2) ∧ ok_X7_runRule_72 (rs_X3_tell (sA S 8 x1.toNatClampNeg (S.1 1044)) x1 (S.1 1045) (S.1 1043) x2) x1 x2)))
set_option maxHeartbeats 4000000 in
set_option maxRecDepth 100000 in
theorem w_X7_runRule_23 {p : Program} {l : Launch} {e : Env} {s : State} {m : MethodId} {args : Array Value} {below : List Frame} {meth : Method} {c : Code} {dC : Nat → ClassId} {dI : Nat → Nat → Nat} {cI cZ : ClassId} {a : Nat → Nat} {A : Nat → Prop} (C0 : Cx p s m args meth c RX7 cX7_runRule (some .boolean) 3 wsX7_runRule) (hK : va_K (dC, dI) vwCl (tI cI cZ) s) (hA : ∀ q, s.heap.size ≤ q → A q) (Z : Int32 × St) (S : St) (x1 : Int32) (x2 : Int32) (hok : ok_X7_runRule_23 S x1 x2) (hZ : rs_X7_runRule_23 S x1 x2 = Z) (H : Heap) (locs : List Loc) (hP : va_P (dC, dI) vwCl (cW cI cZ a S) H) (hD : va_D A (cW cI cZ a S)) (hS : va_S A s.heap H locs) (ls : Array Slot) (hl : lv_has ls 3 [(0, .ref (a 0)), (1, .int x1), (2, .int x2)]) : W p l e rm_X7_runRule s m args below meth c H locs 0 0 (MQ below (va_Qi (fun (r : Int32) (u : St) => (r, u) = Z) (cWB dC dI cI cZ a A) A) args s 0 0 A) (F0 m 23 ls []) := by
  obtain ⟨hx, hb, hr, hml, hown, hts, hlocks⟩ := id C0
  rw [ok_X7_runRule_23] at hok
  rw [rs_X7_runRule_23] at hZ
  refine lv_aload_n hx hb dX7_runRule_23 rfl (lv_at hl 0 rfl) ?_
  refine va_get (D := (dC, dI)) (ci := 6) (v := .ref (a 3)) (C := RX7) (T := TX7) (N := 8) hx hb hts iX7_runRule_X7 hown hK hP 0 rfl rfl 2 (by decide) (hts (.fieldLink RX7 19 "RiskHouse" "rules" "LRiskHouse$Rules;") (by decide +kernel)) (fun _ h9 => h9) rfl dX7_runRule_24 ?_
  refine va_get (D := (dC, dI)) (ci := 4) (v := .ref (a 8)) (C := RX5) (T := TX5) (N := 8) hx hb hts iX7_runRule_X5 hown hK hP 3 rfl rfl 4 (by decide) (hts (.fieldLink RX7 225 "RiskHouse$Rules" "steps" "[I") (by decide +kernel)) (fun _ h9 => h9) rfl dX7_runRule_27 ?_
  refine lv_iload_n hx hb dX7_runRule_30 rfl (lv_at hl 1 rfl) ?_
  refine lv_aload_n hx hb dX7_runRule_31 rfl (lv_at hl 0 rfl) ?_
  refine va_get (D := (dC, dI)) (ci := 6) (v := .ref (a 26)) (C := RX7) (T := TX7) (N := 8) hx hb hts iX7_runRule_X7 hown hK hP 0 rfl rfl 7 (by decide) (hts (.fieldLink RX7 66 "RiskHouse" "machine" "LRiskHouse$Machine;") (by decide +kernel)) (fun _ h9 => h9) rfl dX7_runRule_32 ?_
  refine va_get (D := (dC, dI)) (ci := 3) (v := .int (S.1 1044)) (C := RX4) (T := TX4) (N := 6) hx hb hts iX7_runRule_X4 hown hK hP 26 rfl rfl 4 (by decide) (hts (.fieldLink RX7 228 "RiskHouse$Machine" "steps" "I") (by decide +kernel)) (fun _ h9 => h9) rfl dX7_runRule_35 ?_
  obtain ⟨h_1, hok⟩ := hok
  refine va_iast hx hb hK hP hD hS 8 0 rfl rfl h_1 dX7_runRule_38 (fun H locs hP hD hS => ?_)
  have hP : va_P (dC, dI) vwCl (cW cI cZ a (sA S 8 x1.toNatClampNeg (S.1 1044))) H := hP
  have hD : va_D A (cW cI cZ a (sA S 8 x1.toNatClampNeg (S.1 1044))) := hD
  refine lv_aload_n hx hb dX7_runRule_39 rfl (lv_at hl 0 rfl) ?_
  refine va_get (D := (dC, dI)) (ci := 6) (v := .ref (a 26)) (C := RX7) (T := TX7) (N := 8) hx hb hts iX7_runRule_X7 hown hK hP 0 rfl rfl 7 (by decide) (hts (.fieldLink RX7 66 "RiskHouse" "machine" "LRiskHouse$Machine;") (by decide +kernel)) (fun _ h9 => h9) rfl dX7_runRule_40 ?_
  refine va_get (D := (dC, dI)) (ci := 3) (v := .int (S.1 1045)) (C := RX4) (T := TX4) (N := 6) hx hb hts iX7_runRule_X4 hown hK hP 26 rfl rfl 5 (by decide) (hts (.fieldLink RX7 230 "RiskHouse$Machine" "failure" "I") (by decide +kernel)) (fun _ h9 => h9) rfl dX7_runRule_43 ?_
  refine lv_if_eq (tgt := 89) hx hb dX7_runRule_46 (by decide) (fun c_2 => ?_) (fun c_2 => ?_)
  · have hok := okT hok c_2
    have hZ := rsT hZ c_2
    refine lv_aload_n hx hb dX7_runRule_89 rfl (lv_at hl 0 rfl) ?_
    refine va_get (D := (dC, dI)) (ci := 6) (v := .ref (a 3)) (C := RX7) (T := TX7) (N := 8) hx hb hts iX7_runRule_X7 hown hK hP 0 rfl rfl 2 (by decide) (hts (.fieldLink RX7 19 "RiskHouse" "rules" "LRiskHouse$Rules;") (by decide +kernel)) (fun _ h9 => h9) rfl dX7_runRule_90 ?_
    refine va_get (D := (dC, dI)) (ci := 4) (v := .ref (a 7)) (C := RX5) (T := TX5) (N := 8) hx hb hts iX7_runRule_X5 hown hK hP 3 rfl rfl 3 (by decide) (hts (.fieldLink RX7 215 "RiskHouse$Rules" "value" "[I") (by decide +kernel)) (fun _ h9 => h9) rfl dX7_runRule_93 ?_
    refine lv_iload_n hx hb dX7_runRule_96 rfl (lv_at hl 1 rfl) ?_
    refine lv_aload_n hx hb dX7_runRule_97 rfl (lv_at hl 0 rfl) ?_
    refine va_get (D := (dC, dI)) (ci := 6) (v := .ref (a 26)) (C := RX7) (T := TX7) (N := 8) hx hb hts iX7_runRule_X7 hown hK hP 0 rfl rfl 7 (by decide) (hts (.fieldLink RX7 66 "RiskHouse" "machine" "LRiskHouse$Machine;") (by decide +kernel)) (fun _ h9 => h9) rfl dX7_runRule_98 ?_
    obtain ⟨k_3, hok⟩ := hok
    have hFc := wFw (w := cW cI cZ a (sA S 8 x1.toNatClampNeg (S.1 1044))) hD hS hA
    refine va_calli (va_runV (As := []) (rest := [.int x1, .ref (a 7)]) ⟨hx, hb, hml, hown, hts⟩ (c_X4_top l dC dI cI cZ a H.size (sA S 8 x1.toNatClampNeg (S.1 1044))  k_3) (cwV 0 hts gX7_runRule_X4_top rfl rfl rfl (by decide +kernel) ⟨Nat.le_of_ble_eq_true rfl, Nat.le_of_ble_eq_true rfl⟩) ⟨wBl, va_recv hK hP (ci := 3) (q0 := 26) rfl rfl, fun U hU hW => ⟨rfl, by rw [hU], by rw [hU]; exact hP, va_K.moved hW.alike hK, hD.weaken (fun _ _ _ _ => trivial)⟩⟩ rfl rfl hl.1 rfl (lv_room (Nat.le_of_ble_eq_true rfl)) dX7_runRule_101 ⟨Nat.zero_le _, Nat.zero_le _⟩) hS (fun q _ h => hFc q h) hFc (fun r u t H1 locs ht hvm hw hB hz1 hk1 hS => ?_)
    obtain ⟨hP, hD⟩ := wJn ht hFc hB.1 hB.2.2
    have e1 : r = (rs_X4_top (sA S 8 x1.toNatClampNeg (S.1 1044))).1 := congrArg Prod.fst hw
    have e2 : u = (rs_X4_top (sA S 8 x1.toNatClampNeg (S.1 1044))).2 := congrArg Prod.snd hw
    rw [e1]
    rw [e2] at hP hD
    generalize H1 = H at hP hS ⊢
    exact w_X7_runRule_104 C0 hK hA Z (rs_X4_top (sA S 8 x1.toNatClampNeg (S.1 1044))).2 x1 ((rs_X4_top (sA S 8 x1.toNatClampNeg (S.1 1044))).1) hok hZ _ _ hP hD hS _ (lv_sub hl [] rfl)
  · have hok := okF hok c_2
    have hZ := rsF hZ c_2
    refine lv_aload_n hx hb dX7_runRule_49 rfl (lv_at hl 0 rfl) ?_
    refine va_get (D := (dC, dI)) (ci := 6) (v := .ref (a 24)) (C := RX7) (T := TX7) (N := 8) hx hb hts iX7_runRule_X7 hown hK hP 0 rfl rfl 6 (by decide) (hts (.fieldLink RX7 47 "RiskHouse" "failures" "LRiskHouse$Failures;") (by decide +kernel)) (fun _ h9 => h9) rfl dX7_runRule_50 ?_
    refine lv_iload_n hx hb dX7_runRule_53 rfl (lv_at hl 1 rfl) ?_
    refine lv_aload_n hx hb dX7_runRule_54 rfl (lv_at hl 0 rfl) ?_
    refine va_get (D := (dC, dI)) (ci := 6) (v := .ref (a 26)) (C := RX7) (T := TX7) (N := 8) hx hb hts iX7_runRule_X7 hown hK hP 0 rfl rfl 7 (by decide) (hts (.fieldLink RX7 66 "RiskHouse" "machine" "LRiskHouse$Machine;") (by decide +kernel)) (fun _ h9 => h9) rfl dX7_runRule_55 ?_
    refine va_get (D := (dC, dI)) (ci := 3) (v := .int (S.1 1045)) (C := RX4) (T := TX4) (N := 6) hx hb hts iX7_runRule_X4 hown hK hP 26 rfl rfl 5 (by decide) (hts (.fieldLink RX7 230 "RiskHouse$Machine" "failure" "I") (by decide +kernel)) (fun _ h9 => h9) rfl dX7_runRule_58 ?_
    refine lv_aload_n hx hb dX7_runRule_61 rfl (lv_at hl 0 rfl) ?_
    refine va_get (D := (dC, dI)) (ci := 6) (v := .ref (a 26)) (C := RX7) (T := TX7) (N := 8) hx hb hts iX7_runRule_X7 hown hK hP 0 rfl rfl 7 (by decide) (hts (.fieldLink RX7 66 "RiskHouse" "machine" "LRiskHouse$Machine;") (by decide +kernel)) (fun _ h9 => h9) rfl dX7_runRule_62 ?_
    refine va_get (D := (dC, dI)) (ci := 3) (v := .int (S.1 1043)) (C := RX4) (T := TX4) (N := 6) hx hb hts iX7_runRule_X4 hown hK hP 26 rfl rfl 3 (by decide) (hts (.fieldLink RX7 233 "RiskHouse$Machine" "at" "I") (by decide +kernel)) (fun _ h9 => h9) rfl dX7_runRule_65 ?_
    refine lv_iload_n hx hb dX7_runRule_68 rfl (lv_at hl 2 rfl) ?_
    obtain ⟨k_4, hok⟩ := hok
    have hFc := wFw (w := cW cI cZ a (sA S 8 x1.toNatClampNeg (S.1 1044))) hD hS hA
    refine va_callv (va_runV (As := [.int x1, .int (S.1 1045), .int (S.1 1043), .int x2]) (rest := []) ⟨hx, hb, hml, hown, hts⟩ (c_X3_tell l dC dI cI cZ a H.size (sA S 8 x1.toNatClampNeg (S.1 1044)) x1 (S.1 1045) (S.1 1043) x2 k_4) (cwV 4 hts gX7_runRule_X3_tell rfl rfl rfl (by decide +kernel) ⟨Nat.le_of_ble_eq_true rfl, Nat.le_of_ble_eq_true rfl⟩) ⟨wBl, va_recv hK hP (ci := 2) (q0 := 24) rfl rfl, fun U hU hW => ⟨rfl, by rw [hU], by rw [hU]; exact hP, va_K.moved hW.alike hK, hD.weaken (fun _ _ _ _ => trivial)⟩⟩ rfl rfl hl.1 rfl (lv_room (Nat.le_of_ble_eq_true rfl)) dX7_runRule_69 ⟨Nat.zero_le _, Nat.zero_le _⟩) hS (fun q _ h => hFc q h) hFc (fun u t H1 locs ht hvm hw hB hz1 hk1 hS => ?_)
    obtain ⟨hP, hD⟩ := wJn ht hFc hB.1 hB.2.2
    rw [hw] at hP hD
    generalize H1 = H at hP hS ⊢
    exact w_X7_runRule_72 C0 hK hA Z (rs_X3_tell (sA S 8 x1.toNatClampNeg (S.1 1044)) x1 (S.1 1045) (S.1 1043) x2) x1 x2 hok hZ _ _ hP hD hS _ (lv_sub hl [0, 1, 2] rfl)
def rs_X7_runRule (S : St) (x1 : Int32) (x2 : Int32) : Int32 × St := (rs_X7_runRule_23 (rs_X4_run S x1) x1 x2)
def ok_X7_runRule (S : St) (x1 : Int32) (x2 : Int32) : Prop := ((ok_X4_run S x1) ∧ ok_X7_runRule_23 (rs_X4_run S x1) x1 x2)
set_option maxHeartbeats 4000000 in
set_option maxRecDepth 100000 in
theorem w_X7_runRule {p : Program} {l : Launch} {e : Env} {s : State} {m : MethodId} {args : Array Value} {below : List Frame} {meth : Method} {c : Code} {dC : Nat → ClassId} {dI : Nat → Nat → Nat} {cI cZ : ClassId} {a : Nat → Nat} {A : Nat → Prop} (C0 : Cx p s m args meth c RX7 cX7_runRule (some .boolean) 3 wsX7_runRule) (hK : va_K (dC, dI) vwCl (tI cI cZ) s) (hA : ∀ q, s.heap.size ≤ q → A q) (Z : Int32 × St) (S : St) (x1 : Int32) (x2 : Int32) (hok : ok_X7_runRule S x1 x2) (hZ : rs_X7_runRule S x1 x2 = Z) (H : Heap) (locs : List Loc) (hP : va_P (dC, dI) vwCl (cW cI cZ a S) H) (hD : va_D A (cW cI cZ a S)) (hS : va_S A s.heap H locs) (ls : Array Slot) (hl : lv_has ls 3 [(0, .ref (a 0)), (1, .int x1), (2, .int x2)]) : W p l e rm_X7_runRule s m args below meth c H locs 0 0 (MQ below (va_Qi (fun (r : Int32) (u : St) => (r, u) = Z) (cWB dC dI cI cZ a A) A) args s 0 0 A) (F0 m 0 ls []) := by
  obtain ⟨hx, hb, hr, hml, hown, hts, hlocks⟩ := id C0
  rw [ok_X7_runRule] at hok
  rw [rs_X7_runRule] at hZ
  refine lv_aload_n hx hb dX7_runRule_0 rfl (lv_at hl 0 rfl) ?_
  refine va_get (D := (dC, dI)) (ci := 6) (v := .ref (a 26)) (C := RX7) (T := TX7) (N := 8) hx hb hts iX7_runRule_X7 hown hK hP 0 rfl rfl 7 (by decide) (hts (.fieldLink RX7 66 "RiskHouse" "machine" "LRiskHouse$Machine;") (by decide +kernel)) (fun _ h9 => h9) rfl dX7_runRule_1 ?_
  refine lv_aload_n hx hb dX7_runRule_4 rfl (lv_at hl 0 rfl) ?_
  refine va_get (D := (dC, dI)) (ci := 6) (v := .ref (a 3)) (C := RX7) (T := TX7) (N := 8) hx hb hts iX7_runRule_X7 hown hK hP 0 rfl rfl 2 (by decide) (hts (.fieldLink RX7 19 "RiskHouse" "rules" "LRiskHouse$Rules;") (by decide +kernel)) (fun _ h9 => h9) rfl dX7_runRule_5 ?_
  refine lv_iload_n hx hb dX7_runRule_8 rfl (lv_at hl 1 rfl) ?_
  refine lv_aload_n hx hb dX7_runRule_9 rfl (lv_at hl 0 rfl) ?_
  refine va_get (D := (dC, dI)) (ci := 6) (v := .ref (a 1)) (C := RX7) (T := TX7) (N := 8) hx hb hts iX7_runRule_X7 hown hK hP 0 rfl rfl 0 (by decide) (hts (.fieldLink RX7 9 "RiskHouse" "fields" "[I") (by decide +kernel)) (fun _ h9 => h9) rfl dX7_runRule_10 ?_
  refine lv_aload_n hx hb dX7_runRule_13 rfl (lv_at hl 0 rfl) ?_
  refine va_get (D := (dC, dI)) (ci := 6) (v := .ref (a 11)) (C := RX7) (T := TX7) (N := 8) hx hb hts iX7_runRule_X7 hown hK hP 0 rfl rfl 3 (by decide) (hts (.fieldLink RX7 26 "RiskHouse" "editions" "LRiskHouse$Editions;") (by decide +kernel)) (fun _ h9 => h9) rfl dX7_runRule_14 ?_
  refine va_get (D := (dC, dI)) (ci := 1) (v := .ref (a 12)) (C := RX2) (T := TX2) (N := 3) hx hb hts iX7_runRule_X2 hown hK hP 11 rfl rfl 0 (by decide) (hts (.fieldLink RX7 218 "RiskHouse$Editions" "cell" "[I") (by decide +kernel)) (fun _ h9 => h9) rfl dX7_runRule_17 ?_
  obtain ⟨k_1, hok⟩ := hok
  have hFc := wFw (w := cW cI cZ a S) hD hS hA
  refine va_callv (va_runV (As := [.ref (a 3), .int x1, .ref (a 1), .ref (a 12)]) (rest := []) ⟨hx, hb, hml, hown, hts⟩ (c_X4_run l dC dI cI cZ a H.size S x1 k_1) (cwV 4 hts gX7_runRule_X4_run rfl rfl rfl (by decide +kernel) ⟨Nat.le_of_ble_eq_true rfl, Nat.le_of_ble_eq_true rfl⟩) ⟨wBl, va_recv hK hP (ci := 3) (q0 := 26) rfl rfl, fun U hU hW => ⟨rfl, by rw [hU], by rw [hU]; exact hP, va_K.moved hW.alike hK, hD.weaken (fun _ _ _ _ => trivial)⟩⟩ rfl rfl hl.1 rfl (lv_room (Nat.le_of_ble_eq_true rfl)) dX7_runRule_20 ⟨Nat.zero_le _, Nat.zero_le _⟩) hS (fun q _ h => hFc q h) hFc (fun u t H1 locs ht hvm hw hB hz1 hk1 hS => ?_)
  obtain ⟨hP, hD⟩ := wJn ht hFc hB.1 hB.2.2
  rw [hw] at hP hD
  generalize H1 = H at hP hS ⊢
  exact w_X7_runRule_23 C0 hK hA Z (rs_X4_run S x1) x1 x2 hok hZ _ _ hP hD hS _ (lv_sub hl [0, 1, 2] rfl)
set_option maxHeartbeats 4000000 in
set_option maxRecDepth 100000 in
theorem c_X7_runRule (l : Launch) (dC : Nat → ClassId) (dI : Nat → Nat → Nat) (cI cZ : ClassId) (a : Nat → Nat) (sz : Nat) (S : St) (x1 : Int32) (x2 : Int32) (hok : ok_X7_runRule S x1 x2) : Met l yX7_runRule wsX7_runRule rm_X7_runRule (va_Pc [.ref (a 0), .int x1, .int x2] (cWP dC dI cI cZ a sz S)) (va_Qi (fun (r : Int32) (u : St) => (r, u) = rs_X7_runRule S x1 x2) (cWB dC dI cI cZ a (va_A (cW cI cZ a S) sz)) (va_A (cW cI cZ a S) sz)) 0 0 (va_A (cW cI cZ a S) sz) := by
  refine Met.ofW (cc := cX7_runRule) (maxL := 3) (ret := (some .boolean)) (by decide) rfl ?_
  intro p e s m args below meth c s₁ B hml hv
  obtain ⟨rfl, hsz, hP, hK, hD0⟩ := hv
  subst hsz
  have hD := hD0.self (sz := s.heap.size)
  have hl := lv_entry ([.ref (a 0), .int x1, .int x2]) (n := 3) (Nat.le_of_ble_eq_true rfl)
  rw [lg_entry_eq]
  generalize (lg_sl ([.ref (a 0), .int x1, .int x2]) ++ List.replicate (3 - (lg_sl ([.ref (a 0), .int x1, .int x2])).length) Slot.unset).toArray = ls at hl ⊢
  have hl : lv_has ls 3 [(0, .ref (a 0)), (1, .int x1), (2, .int x2)] := hl
  exact w_X7_runRule ⟨B.exec, B.bytes, B.returns, hml, findClass_of_methodNamed B.named, atoms_spec (ws := wsX7_runRule) B.pre, B.notSynchronized⟩ hK (fun q h => Or.inr h) _ S x1 x2 hok rfl _ _ hP hD va_S.rf ls hl
abbrev rm_X7_startIfDue : Room := { frames := 5, cells := 0, slots := 0, locals := 119 }
theorem iX7_startIfDue_X2 : ∀ w ∈ wsX20, w ∈ wsX7_startIfDue := by decide +kernel
theorem iX7_startIfDue_X5 : ∀ w ∈ wsX50, w ∈ wsX7_startIfDue := by decide +kernel
theorem iX7_startIfDue_X7 : ∀ w ∈ wsX70, w ∈ wsX7_startIfDue := by decide +kernel
def rs_X7_startIfDue_90 (k : St → Int32 → Int32 → Int32 → St) (S : St) (x1 : Int32) (x2 : Int32) (x3 : Int32) : St := (k S x1 x2 (x3 + 1))
def ok_X7_startIfDue_90 (kk : St → Int32 → Int32 → Int32 → Prop) (S : St) (x1 : Int32) (x2 : Int32) (x3 : Int32) : Prop := kk S x1 x2 (x3 + 1)
set_option maxHeartbeats 4000000 in
set_option maxRecDepth 100000 in
theorem w_X7_startIfDue_90 {p : Program} {l : Launch} {e : Env} {s : State} {m : MethodId} {args : Array Value} {below : List Frame} {meth : Method} {c : Code} {dC : Nat → ClassId} {dI : Nat → Nat → Nat} {cI cZ : ClassId} {a : Nat → Nat} {A : Nat → Prop} (C0 : Cx p s m args meth c RX7 cX7_startIfDue none 4 wsX7_startIfDue) (hK : va_K (dC, dI) vwCl (tI cI cZ) s) (hA : ∀ q, s.heap.size ≤ q → A q) (Z : St) (k : St → Int32 → Int32 → Int32 → St) (kk : St → Int32 → Int32 → Int32 → Prop) (hk : ∀ (S : St) (x1 : Int32) (x2 : Int32) (x3 : Int32) (hok : kk S x1 x2 x3) (hZ : k S x1 x2 x3 = Z) (H : Heap) (locs : List Loc) (hP : va_P (dC, dI) vwCl (cW cI cZ a S) H) (hD : va_D A (cW cI cZ a S)) (hS : va_S A s.heap H locs) (ls : Array Slot) (hl : lv_has ls 4 [(0, .ref (a 0)), (1, .int x1), (2, .int x2), (3, .int x3)]), W p l e rm_X7_startIfDue s m args below meth c H locs 0 0 (MQ below (va_Qv (fun u : St => u = Z) (cWB dC dI cI cZ a A) A) args s 0 0 A) (F0 m 24 ls [])) (S : St) (x1 : Int32) (x2 : Int32) (x3 : Int32) (hok : ok_X7_startIfDue_90 kk S x1 x2 x3) (hZ : rs_X7_startIfDue_90 k S x1 x2 x3 = Z) (H : Heap) (locs : List Loc) (hP : va_P (dC, dI) vwCl (cW cI cZ a S) H) (hD : va_D A (cW cI cZ a S)) (hS : va_S A s.heap H locs) (ls : Array Slot) (hl : lv_has ls 4 [(0, .ref (a 0)), (1, .int x1), (2, .int x2), (3, .int x3)]) : W p l e rm_X7_startIfDue s m args below meth c H locs 0 0 (MQ below (va_Qv (fun u : St => u = Z) (cWB dC dI cI cZ a A) A) args s 0 0 A) (F0 m 90 ls []) := by
  obtain ⟨hx, hb, hr, hml, hown, hts, hlocks⟩ := id C0
  rw [ok_X7_startIfDue_90] at hok
  rw [rs_X7_startIfDue_90] at hZ
  refine lv_iinc (v := (x3 + 1)) (lv' := [(3, .int (x3 + 1)), (0, .ref (a 0)), (1, .int x1), (2, .int x2)]) hx hb dX7_startIfDue_90 hl (k := 3) rfl rfl (by decide) rfl (fun ls hl => ?_)
  refine lv_goto (tgt := 24) hx hb dX7_startIfDue_93 (by decide) ?_
  exact hk S x1 x2 (x3 + 1) hok hZ _ _ hP hD hS _ (lv_sub hl [1, 2, 3, 0] rfl)
def rs_X7_startIfDue_77 (k : St → Int32 → Int32 → Int32 → St) (S : St) (x1 : Int32) (x2 : Int32) (x3 : Int32) (z0 : Int32) : St := (if z0 = 0 then (rs_X7_startIfDue_90 k (sA S 13 x1.toNatClampNeg 2) x1 x2 x3) else (rs_X7_startIfDue_90 k S x1 x2 x3))
def ok_X7_startIfDue_77 (kk : St → Int32 → Int32 → Int32 → Prop) (S : St) (x1 : Int32) (x2 : Int32) (x3 : Int32) (z0 : Int32) : Prop := (if z0 = 0 then ((vp_in x1 4) ∧ ok_X7_startIfDue_90 kk (sA S 13 x1.toNatClampNeg 2) x1 x2 x3) else ok_X7_startIfDue_90 kk S x1 x2 x3)
set_option maxHeartbeats 4000000 in
set_option maxRecDepth 100000 in
theorem w_X7_startIfDue_77 {p : Program} {l : Launch} {e : Env} {s : State} {m : MethodId} {args : Array Value} {below : List Frame} {meth : Method} {c : Code} {dC : Nat → ClassId} {dI : Nat → Nat → Nat} {cI cZ : ClassId} {a : Nat → Nat} {A : Nat → Prop} (C0 : Cx p s m args meth c RX7 cX7_startIfDue none 4 wsX7_startIfDue) (hK : va_K (dC, dI) vwCl (tI cI cZ) s) (hA : ∀ q, s.heap.size ≤ q → A q) (Z : St) (k : St → Int32 → Int32 → Int32 → St) (kk : St → Int32 → Int32 → Int32 → Prop) (hk : ∀ (S : St) (x1 : Int32) (x2 : Int32) (x3 : Int32) (hok : kk S x1 x2 x3) (hZ : k S x1 x2 x3 = Z) (H : Heap) (locs : List Loc) (hP : va_P (dC, dI) vwCl (cW cI cZ a S) H) (hD : va_D A (cW cI cZ a S)) (hS : va_S A s.heap H locs) (ls : Array Slot) (hl : lv_has ls 4 [(0, .ref (a 0)), (1, .int x1), (2, .int x2), (3, .int x3)]), W p l e rm_X7_startIfDue s m args below meth c H locs 0 0 (MQ below (va_Qv (fun u : St => u = Z) (cWB dC dI cI cZ a A) A) args s 0 0 A) (F0 m 24 ls [])) (S : St) (x1 : Int32) (x2 : Int32) (x3 : Int32) (z0 : Int32) (hok : ok_X7_startIfDue_77 kk S x1 x2 x3 z0) (hZ : rs_X7_startIfDue_77 k S x1 x2 x3 z0 = Z) (H : Heap) (locs : List Loc) (hP : va_P (dC, dI) vwCl (cW cI cZ a S) H) (hD : va_D A (cW cI cZ a S)) (hS : va_S A s.heap H locs) (ls : Array Slot) (hl : lv_has ls 4 [(0, .ref (a 0)), (1, .int x1), (2, .int x2), (3, .int x3)]) : W p l e rm_X7_startIfDue s m args below meth c H locs 0 0 (MQ below (va_Qv (fun u : St => u = Z) (cWB dC dI cI cZ a A) A) args s 0 0 A) (F0 m 77 ls [.int z0]) := by
  obtain ⟨hx, hb, hr, hml, hown, hts, hlocks⟩ := id C0
  rw [ok_X7_startIfDue_77] at hok
  rw [rs_X7_startIfDue_77] at hZ
  refine lv_if_ne (tgt := 90) hx hb dX7_startIfDue_77 (by decide) (fun c_1 => ?_) (fun c_1 => ?_)
  · have hok := okF hok c_1
    have hZ := rsF hZ c_1
    exact w_X7_startIfDue_90 C0 hK hA Z k kk hk S x1 x2 x3 hok hZ _ _ hP hD hS _ (lv_sub hl [0, 1, 2, 3] rfl)
  · have hok := okT hok c_1
    have hZ := rsT hZ c_1
    refine lv_aload_n hx hb dX7_startIfDue_80 rfl (lv_at hl 0 rfl) ?_
    refine va_get (D := (dC, dI)) (ci := 6) (v := .ref (a 11)) (C := RX7) (T := TX7) (N := 8) hx hb hts iX7_startIfDue_X7 hown hK hP 0 rfl rfl 3 (by decide) (hts (.fieldLink RX7 26 "RiskHouse" "editions" "LRiskHouse$Editions;") (by decide +kernel)) (fun _ h9 => h9) rfl dX7_startIfDue_81 ?_
    refine va_get (D := (dC, dI)) (ci := 1) (v := .ref (a 13)) (C := RX2) (T := TX2) (N := 3) hx hb hts iX7_startIfDue_X2 hown hK hP 11 rfl rfl 1 (by decide) (hts (.fieldLink RX7 202 "RiskHouse$Editions" "state" "[I") (by decide +kernel)) (fun _ h9 => h9) rfl dX7_startIfDue_84 ?_
    refine lv_iload_n hx hb dX7_startIfDue_87 rfl (lv_at hl 1 rfl) ?_
    refine lv_iconst (v := 2) hx hb dX7_startIfDue_88 (by decide) ?_
    obtain ⟨h_2, hok⟩ := hok
    refine va_iast hx hb hK hP hD hS 13 0 rfl rfl h_2 dX7_startIfDue_89 (fun H locs hP hD hS => ?_)
    have hP : va_P (dC, dI) vwCl (cW cI cZ a (sA S 13 x1.toNatClampNeg 2)) H := hP
    have hD : va_D A (cW cI cZ a (sA S 13 x1.toNatClampNeg 2)) := hD
    exact w_X7_startIfDue_90 C0 hK hA Z k kk hk (sA S 13 x1.toNatClampNeg 2) x1 x2 x3 hok hZ _ _ hP hD hS _ (lv_sub hl [0, 1, 2, 3] rfl)
def rs_X7_startIfDue_43 (k : St → Int32 → Int32 → Int32 → St) (S : St) (x1 : Int32) (x2 : Int32) (x3 : Int32) (z0 : Int32) : St := (if z0 = 0 then (if ((S.2 4) x3.toNatClampNeg) = x1 then (if ((S.2 5) x3.toNatClampNeg) = 0 then (rs_X7_startIfDue_90 k S x1 x2 x3) else (rs_X7_startIfDue_77 k (rs_X7_runRule S x3 x2).2 x1 x2 x3 ((rs_X7_runRule S x3 x2).1))) else (rs_X7_startIfDue_90 k S x1 x2 x3)) else S)
def ok_X7_startIfDue_43 (kk : St → Int32 → Int32 → Int32 → Prop) (S : St) (x1 : Int32) (x2 : Int32) (x3 : Int32) (z0 : Int32) : Prop := (if z0 = 0 then ((vp_in x3 12) ∧ (if ((S.2 4) x3.toNatClampNeg) = x1 then ((vp_in x3 12) ∧ (if ((S.2 5) x3.toNatClampNeg) = 0 then ok_X7_startIfDue_90 kk S x1 x2 x3 else ((ok_X7_runRule S x3 x2) ∧ ok_X7_startIfDue_77 kk (rs_X7_runRule S x3 x2).2 x1 x2 x3 ((rs_X7_runRule S x3 x2).1)))) else ok_X7_startIfDue_90 kk S x1 x2 x3)) else True)
set_option maxHeartbeats 4000000 in
set_option maxRecDepth 100000 in
theorem w_X7_startIfDue_43 {p : Program} {l : Launch} {e : Env} {s : State} {m : MethodId} {args : Array Value} {below : List Frame} {meth : Method} {c : Code} {dC : Nat → ClassId} {dI : Nat → Nat → Nat} {cI cZ : ClassId} {a : Nat → Nat} {A : Nat → Prop} (C0 : Cx p s m args meth c RX7 cX7_startIfDue none 4 wsX7_startIfDue) (hK : va_K (dC, dI) vwCl (tI cI cZ) s) (hA : ∀ q, s.heap.size ≤ q → A q) (Z : St) (k : St → Int32 → Int32 → Int32 → St) (kk : St → Int32 → Int32 → Int32 → Prop) (hk : ∀ (S : St) (x1 : Int32) (x2 : Int32) (x3 : Int32) (hok : kk S x1 x2 x3) (hZ : k S x1 x2 x3 = Z) (H : Heap) (locs : List Loc) (hP : va_P (dC, dI) vwCl (cW cI cZ a S) H) (hD : va_D A (cW cI cZ a S)) (hS : va_S A s.heap H locs) (ls : Array Slot) (hl : lv_has ls 4 [(0, .ref (a 0)), (1, .int x1), (2, .int x2), (3, .int x3)]), W p l e rm_X7_startIfDue s m args below meth c H locs 0 0 (MQ below (va_Qv (fun u : St => u = Z) (cWB dC dI cI cZ a A) A) args s 0 0 A) (F0 m 24 ls [])) (S : St) (x1 : Int32) (x2 : Int32) (x3 : Int32) (z0 : Int32) (hok : ok_X7_startIfDue_43 kk S x1 x2 x3 z0) (hZ : rs_X7_startIfDue_43 k S x1 x2 x3 z0 = Z) (H : Heap) (locs : List Loc) (hP : va_P (dC, dI) vwCl (cW cI cZ a S) H) (hD : va_D A (cW cI cZ a S)) (hS : va_S A s.heap H locs) (ls : Array Slot) (hl : lv_has ls 4 [(0, .ref (a 0)), (1, .int x1), (2, .int x2), (3, .int x3)]) : W p l e rm_X7_startIfDue s m args below meth c H locs 0 0 (MQ below (va_Qv (fun u : St => u = Z) (cWB dC dI cI cZ a A) A) args s 0 0 A) (F0 m 43 ls [.int z0]) := by
  obtain ⟨hx, hb, hr, hml, hown, hts, hlocks⟩ := id C0
  rw [ok_X7_startIfDue_43] at hok
  rw [rs_X7_startIfDue_43] at hZ
  refine lv_if_ne (tgt := 96) hx hb dX7_startIfDue_43 (by decide) (fun c_1 => ?_) (fun c_1 => ?_)
  · have hok := okF hok c_1
    have hZ := rsF hZ c_1
    exact W.vret hx hb hr (fun t ht hW => ⟨⟨S, rfl, hZ, by rw [ht]; exact hP, va_K.moved hW.alike hK, hD⟩, hS.F ht⟩) hS.2.2 dX7_startIfDue_96 hlocks
  · have hok := okT hok c_1
    have hZ := rsT hZ c_1
    refine lv_aload_n hx hb dX7_startIfDue_46 rfl (lv_at hl 0 rfl) ?_
    refine va_get (D := (dC, dI)) (ci := 6) (v := .ref (a 3)) (C := RX7) (T := TX7) (N := 8) hx hb hts iX7_startIfDue_X7 hown hK hP 0 rfl rfl 2 (by decide) (hts (.fieldLink RX7 19 "RiskHouse" "rules" "LRiskHouse$Rules;") (by decide +kernel)) (fun _ h9 => h9) rfl dX7_startIfDue_47 ?_
    refine va_get (D := (dC, dI)) (ci := 4) (v := .ref (a 4)) (C := RX5) (T := TX5) (N := 8) hx hb hts iX7_startIfDue_X5 hown hK hP 3 rfl rfl 0 (by decide) (hts (.fieldLink RX7 114 "RiskHouse$Rules" "edition" "[I") (by decide +kernel)) (fun _ h9 => h9) rfl dX7_startIfDue_50 ?_
    refine lv_iload_n hx hb dX7_startIfDue_53 rfl (lv_at hl 3 rfl) ?_
    obtain ⟨h_2, hok⟩ := hok
    refine va_iald (f := (S.2 4)) hx hb hK hP 4 0 rfl rfl h_2 dX7_startIfDue_54 ?_
    refine lv_iload_n hx hb dX7_startIfDue_55 rfl (lv_at hl 1 rfl) ?_
    refine lv_icmp_ne (tgt := 90) hx hb dX7_startIfDue_56 (by decide) (fun c_3 => ?_) (fun c_3 => ?_)
    · have hok := okF hok c_3
      have hZ := rsF hZ c_3
      exact w_X7_startIfDue_90 C0 hK hA Z k kk hk S x1 x2 x3 hok hZ _ _ hP hD hS _ (lv_sub hl [0, 1, 2, 3] rfl)
    · have hok := okT hok c_3
      have hZ := rsT hZ c_3
      refine lv_aload_n hx hb dX7_startIfDue_59 rfl (lv_at hl 0 rfl) ?_
      refine va_get (D := (dC, dI)) (ci := 6) (v := .ref (a 3)) (C := RX7) (T := TX7) (N := 8) hx hb hts iX7_startIfDue_X7 hown hK hP 0 rfl rfl 2 (by decide) (hts (.fieldLink RX7 19 "RiskHouse" "rules" "LRiskHouse$Rules;") (by decide +kernel)) (fun _ h9 => h9) rfl dX7_startIfDue_60 ?_
      refine va_get (D := (dC, dI)) (ci := 4) (v := .ref (a 5)) (C := RX5) (T := TX5) (N := 8) hx hb hts iX7_startIfDue_X5 hown hK hP 3 rfl rfl 1 (by decide) (hts (.fieldLink RX7 208 "RiskHouse$Rules" "start" "[Z") (by decide +kernel)) (fun _ h9 => h9) rfl dX7_startIfDue_63 ?_
      refine lv_iload_n hx hb dX7_startIfDue_66 rfl (lv_at hl 3 rfl) ?_
      obtain ⟨h_4, hok⟩ := hok
      refine va_zald (f := (S.2 5)) hx hb hK hP 5 1 rfl rfl h_4 dX7_startIfDue_67 ?_
      refine lv_if_eq (tgt := 90) hx hb dX7_startIfDue_68 (by decide) (fun c_5 => ?_) (fun c_5 => ?_)
      · have hok := okT hok c_5
        have hZ := rsT hZ c_5
        exact w_X7_startIfDue_90 C0 hK hA Z k kk hk S x1 x2 x3 hok hZ _ _ hP hD hS _ (lv_sub hl [0, 1, 2, 3] rfl)
      · have hok := okF hok c_5
        have hZ := rsF hZ c_5
        refine lv_aload_n hx hb dX7_startIfDue_71 rfl (lv_at hl 0 rfl) ?_
        refine lv_iload_n hx hb dX7_startIfDue_72 rfl (lv_at hl 3 rfl) ?_
        refine lv_iload_n hx hb dX7_startIfDue_73 rfl (lv_at hl 2 rfl) ?_
        obtain ⟨k_6, hok⟩ := hok
        have hFc := wFw (w := cW cI cZ a S) hD hS hA
        refine va_calli (va_runV (As := [.int x3, .int x2]) (rest := []) ⟨hx, hb, hml, hown, hts⟩ (c_X7_runRule l dC dI cI cZ a H.size S x3 x2 k_6) (cwV 2 hts gX7_startIfDue_X7_runRule rfl rfl rfl (by decide +kernel) ⟨Nat.le_of_ble_eq_true rfl, Nat.le_of_ble_eq_true rfl⟩) ⟨wBl, va_recv hK hP (ci := 6) (q0 := 0) rfl rfl, fun U hU hW => ⟨rfl, by rw [hU], by rw [hU]; exact hP, va_K.moved hW.alike hK, hD.weaken (fun _ _ _ _ => trivial)⟩⟩ rfl rfl hl.1 rfl (lv_room (Nat.le_of_ble_eq_true rfl)) dX7_startIfDue_74 ⟨Nat.zero_le _, Nat.zero_le _⟩) hS (fun q _ h => hFc q h) hFc (fun r u t H1 locs ht hvm hw hB hz1 hk1 hS => ?_)
        obtain ⟨hP, hD⟩ := wJn ht hFc hB.1 hB.2.2
        have e1 : r = (rs_X7_runRule S x3 x2).1 := congrArg Prod.fst hw
        have e2 : u = (rs_X7_runRule S x3 x2).2 := congrArg Prod.snd hw
        rw [e1]
        rw [e2] at hP hD
        generalize H1 = H at hP hS ⊢
        exact w_X7_startIfDue_77 C0 hK hA Z k kk hk (rs_X7_runRule S x3 x2).2 x1 x2 x3 ((rs_X7_runRule S x3 x2).1) hok hZ _ _ hP hD hS _ (lv_sub hl [0, 1, 2, 3] rfl)
def rs_X7_startIfDue_24 : Nat → St → Int32 → Int32 → Int32 → St
  | 0, S, x1, x2, x3 => S
  | n + 1, S, x1, x2, x3 => (if (S.1 127) ≤ x3 then S else (rs_X7_startIfDue_43 (rs_X7_startIfDue_24 n) (rs_X2_isBarred S x1).2 x1 x2 x3 ((rs_X2_isBarred S x1).1)))
def ok_X7_startIfDue_24 : Nat → St → Int32 → Int32 → Int32 → Prop
  | 0, _, _, _, _ => False
  | n + 1, S, x1, x2, x3 => (if (S.1 127) ≤ x3 then True else ((ok_X2_isBarred S x1) ∧ ok_X7_startIfDue_43 (ok_X7_startIfDue_24 n) (rs_X2_isBarred S x1).2 x1 x2 x3 ((rs_X2_isBarred S x1).1)))
set_option maxHeartbeats 4000000 in
set_option maxRecDepth 100000 in
theorem w_X7_startIfDue_24 {p : Program} {l : Launch} {e : Env} {s : State} {m : MethodId} {args : Array Value} {below : List Frame} {meth : Method} {c : Code} {dC : Nat → ClassId} {dI : Nat → Nat → Nat} {cI cZ : ClassId} {a : Nat → Nat} {A : Nat → Prop} (C0 : Cx p s m args meth c RX7 cX7_startIfDue none 4 wsX7_startIfDue) (hK : va_K (dC, dI) vwCl (tI cI cZ) s) (hA : ∀ q, s.heap.size ≤ q → A q) (Z : St) : ∀ (n : Nat) (S : St) (x1 : Int32) (x2 : Int32) (x3 : Int32) (hok : ok_X7_startIfDue_24 n S x1 x2 x3) (hZ : rs_X7_startIfDue_24 n S x1 x2 x3 = Z) (H : Heap) (locs : List Loc) (hP : va_P (dC, dI) vwCl (cW cI cZ a S) H) (hD : va_D A (cW cI cZ a S)) (hS : va_S A s.heap H locs) (ls : Array Slot) (hl : lv_has ls 4 [(0, .ref (a 0)), (1, .int x1), (2, .int x2), (3, .int x3)]), W p l e rm_X7_startIfDue s m args below meth c H locs 0 0 (MQ below (va_Qv (fun u : St => u = Z) (cWB dC dI cI cZ a A) A) args s 0 0 A) (F0 m 24 ls []) := by
  obtain ⟨hx, hb, hr, hml, hown, hts, hlocks⟩ := id C0
  intro n
  induction n with
  | zero => intro S x1 x2 x3 hok; exact absurd hok (fun h => h)
  | succ n ih =>
    intro S x1 x2 x3 hok hZ H locs hP hD hS ls hl
    rw [ok_X7_startIfDue_24] at hok
    rw [rs_X7_startIfDue_24] at hZ
    refine lv_iload_n hx hb dX7_startIfDue_24 rfl (lv_at hl 3 rfl) ?_
    refine lv_aload_n hx hb dX7_startIfDue_25 rfl (lv_at hl 0 rfl) ?_
    refine va_get (D := (dC, dI)) (ci := 6) (v := .ref (a 3)) (C := RX7) (T := TX7) (N := 8) hx hb hts iX7_startIfDue_X7 hown hK hP 0 rfl rfl 2 (by decide) (hts (.fieldLink RX7 19 "RiskHouse" "rules" "LRiskHouse$Rules;") (by decide +kernel)) (fun _ h9 => h9) rfl dX7_startIfDue_26 ?_
    refine va_get (D := (dC, dI)) (ci := 4) (v := .int (S.1 127)) (C := RX5) (T := TX5) (N := 8) hx hb hts iX7_startIfDue_X5 hown hK hP 3 rfl rfl 7 (by decide) (hts (.fieldLink RX7 87 "RiskHouse$Rules" "size" "I") (by decide +kernel)) (fun _ h9 => h9) rfl dX7_startIfDue_29 ?_
    refine lv_icmp_ge (tgt := 96) hx hb dX7_startIfDue_32 (by decide) (fun c_1 => ?_) (fun c_1 => ?_)
    · have hok := okT hok c_1
      have hZ := rsT hZ c_1
      exact W.vret hx hb hr (fun t ht hW => ⟨⟨S, rfl, hZ, by rw [ht]; exact hP, va_K.moved hW.alike hK, hD⟩, hS.F ht⟩) hS.2.2 dX7_startIfDue_96 hlocks
    · have hok := okF hok c_1
      have hZ := rsF hZ c_1
      refine lv_aload_n hx hb dX7_startIfDue_35 rfl (lv_at hl 0 rfl) ?_
      refine va_get (D := (dC, dI)) (ci := 6) (v := .ref (a 11)) (C := RX7) (T := TX7) (N := 8) hx hb hts iX7_startIfDue_X7 hown hK hP 0 rfl rfl 3 (by decide) (hts (.fieldLink RX7 26 "RiskHouse" "editions" "LRiskHouse$Editions;") (by decide +kernel)) (fun _ h9 => h9) rfl dX7_startIfDue_36 ?_
      refine lv_iload_n hx hb dX7_startIfDue_39 rfl (lv_at hl 1 rfl) ?_
      obtain ⟨k_2, hok⟩ := hok
      have hFc := wFw (w := cW cI cZ a S) hD hS hA
      refine va_calli (va_runV (As := [.int x1]) (rest := []) ⟨hx, hb, hml, hown, hts⟩ (c_X2_isBarred l dC dI cI cZ a H.size S x1 k_2) (cwV 1 hts gX7_startIfDue_X2_isBarred rfl rfl rfl (by decide +kernel) ⟨Nat.le_of_ble_eq_true rfl, Nat.le_of_ble_eq_true rfl⟩) ⟨wBl, va_recv hK hP (ci := 1) (q0 := 11) rfl rfl, fun U hU hW => ⟨rfl, by rw [hU], by rw [hU]; exact hP, va_K.moved hW.alike hK, hD.weaken (fun _ _ _ _ => trivial)⟩⟩ rfl rfl hl.1 rfl (lv_room (Nat.le_of_ble_eq_true rfl)) dX7_startIfDue_40 ⟨Nat.zero_le _, Nat.zero_le _⟩) hS (fun q _ h => hFc q h) hFc (fun r u t H1 locs ht hvm hw hB hz1 hk1 hS => ?_)
      obtain ⟨hP, hD⟩ := wJn ht hFc hB.1 hB.2.2
      have e1 : r = (rs_X2_isBarred S x1).1 := congrArg Prod.fst hw
      have e2 : u = (rs_X2_isBarred S x1).2 := congrArg Prod.snd hw
      rw [e1]
      rw [e2] at hP hD
      generalize H1 = H at hP hS ⊢
      exact w_X7_startIfDue_43 C0 hK hA Z (rs_X7_startIfDue_24 n) (ok_X7_startIfDue_24 n) ih (rs_X2_isBarred S x1).2 x1 x2 x3 ((rs_X2_isBarred S x1).1) hok hZ _ _ hP hD hS _ (lv_sub hl [0, 1, 2, 3] rfl)
def rs_X7_startIfDue_8 (S : St) (x1 : Int32) (x2 : Int32) (z0 : Int32) : St := (if z0 = 0 then S else (rs_X7_startIfDue_24 100 (sA S 13 x1.toNatClampNeg 1) x1 x2 0))
def ok_X7_startIfDue_8 (S : St) (x1 : Int32) (x2 : Int32) (z0 : Int32) : Prop := (if z0 = 0 then True else ((vp_in x1 4) ∧ ok_X7_startIfDue_24 100 (sA S 13 x1.toNatClampNeg 1) x1 x2 0))
set_option maxHeartbeats 4000000 in
set_option maxRecDepth 100000 in
theorem w_X7_startIfDue_8 {p : Program} {l : Launch} {e : Env} {s : State} {m : MethodId} {args : Array Value} {below : List Frame} {meth : Method} {c : Code} {dC : Nat → ClassId} {dI : Nat → Nat → Nat} {cI cZ : ClassId} {a : Nat → Nat} {A : Nat → Prop} (C0 : Cx p s m args meth c RX7 cX7_startIfDue none 4 wsX7_startIfDue) (hK : va_K (dC, dI) vwCl (tI cI cZ) s) (hA : ∀ q, s.heap.size ≤ q → A q) (Z : St) (S : St) (x1 : Int32) (x2 : Int32) (z0 : Int32) (hok : ok_X7_startIfDue_8 S x1 x2 z0) (hZ : rs_X7_startIfDue_8 S x1 x2 z0 = Z) (H : Heap) (locs : List Loc) (hP : va_P (dC, dI) vwCl (cW cI cZ a S) H) (hD : va_D A (cW cI cZ a S)) (hS : va_S A s.heap H locs) (ls : Array Slot) (hl : lv_has ls 4 [(0, .ref (a 0)), (1, .int x1), (2, .int x2)]) : W p l e rm_X7_startIfDue s m args below meth c H locs 0 0 (MQ below (va_Qv (fun u : St => u = Z) (cWB dC dI cI cZ a A) A) args s 0 0 A) (F0 m 8 ls [.int z0]) := by
  obtain ⟨hx, hb, hr, hml, hown, hts, hlocks⟩ := id C0
  rw [ok_X7_startIfDue_8] at hok
  rw [rs_X7_startIfDue_8] at hZ
  refine lv_if_ne (tgt := 12) hx hb dX7_startIfDue_8 (by decide) (fun c_1 => ?_) (fun c_1 => ?_)
  · have hok := okF hok c_1
    have hZ := rsF hZ c_1
    refine lv_aload_n hx hb dX7_startIfDue_12 rfl (lv_at hl 0 rfl) ?_
    refine va_get (D := (dC, dI)) (ci := 6) (v := .ref (a 11)) (C := RX7) (T := TX7) (N := 8) hx hb hts iX7_startIfDue_X7 hown hK hP 0 rfl rfl 3 (by decide) (hts (.fieldLink RX7 26 "RiskHouse" "editions" "LRiskHouse$Editions;") (by decide +kernel)) (fun _ h9 => h9) rfl dX7_startIfDue_13 ?_
    refine va_get (D := (dC, dI)) (ci := 1) (v := .ref (a 13)) (C := RX2) (T := TX2) (N := 3) hx hb hts iX7_startIfDue_X2 hown hK hP 11 rfl rfl 1 (by decide) (hts (.fieldLink RX7 202 "RiskHouse$Editions" "state" "[I") (by decide +kernel)) (fun _ h9 => h9) rfl dX7_startIfDue_16 ?_
    refine lv_iload_n hx hb dX7_startIfDue_19 rfl (lv_at hl 1 rfl) ?_
    refine lv_iconst (v := 1) hx hb dX7_startIfDue_20 (by decide) ?_
    obtain ⟨h_2, hok⟩ := hok
    refine va_iast hx hb hK hP hD hS 13 0 rfl rfl h_2 dX7_startIfDue_21 (fun H locs hP hD hS => ?_)
    have hP : va_P (dC, dI) vwCl (cW cI cZ a (sA S 13 x1.toNatClampNeg 1)) H := hP
    have hD : va_D A (cW cI cZ a (sA S 13 x1.toNatClampNeg 1)) := hD
    refine lv_iconst (v := 0) hx hb dX7_startIfDue_22 (by decide) ?_
    refine lv_istore_n (lv' := [(3, .int 0), (0, .ref (a 0)), (1, .int x1), (2, .int x2)]) hx hb dX7_startIfDue_23 rfl hl (by decide) rfl (fun ls hl => ?_)
    exact w_X7_startIfDue_24 C0 hK hA Z 100 (sA S 13 x1.toNatClampNeg 1) x1 x2 0 hok hZ _ _ hP hD hS _ (lv_sub hl [1, 2, 3, 0] rfl)
  · have hok := okT hok c_1
    have hZ := rsT hZ c_1
    exact W.vret hx hb hr (fun t ht hW => ⟨⟨S, rfl, hZ, by rw [ht]; exact hP, va_K.moved hW.alike hK, hD⟩, hS.F ht⟩) hS.2.2 dX7_startIfDue_11 hlocks
def rs_X7_startIfDue (S : St) (x1 : Int32) (x2 : Int32) : St := (rs_X7_startIfDue_8 (rs_X2_isDue S x1).2 x1 x2 ((rs_X2_isDue S x1).1))
def ok_X7_startIfDue (S : St) (x1 : Int32) (x2 : Int32) : Prop := ((ok_X2_isDue S x1) ∧ ok_X7_startIfDue_8 (rs_X2_isDue S x1).2 x1 x2 ((rs_X2_isDue S x1).1))
set_option maxHeartbeats 4000000 in
set_option maxRecDepth 100000 in
theorem w_X7_startIfDue {p : Program} {l : Launch} {e : Env} {s : State} {m : MethodId} {args : Array Value} {below : List Frame} {meth : Method} {c : Code} {dC : Nat → ClassId} {dI : Nat → Nat → Nat} {cI cZ : ClassId} {a : Nat → Nat} {A : Nat → Prop} (C0 : Cx p s m args meth c RX7 cX7_startIfDue none 4 wsX7_startIfDue) (hK : va_K (dC, dI) vwCl (tI cI cZ) s) (hA : ∀ q, s.heap.size ≤ q → A q) (Z : St) (S : St) (x1 : Int32) (x2 : Int32) (hok : ok_X7_startIfDue S x1 x2) (hZ : rs_X7_startIfDue S x1 x2 = Z) (H : Heap) (locs : List Loc) (hP : va_P (dC, dI) vwCl (cW cI cZ a S) H) (hD : va_D A (cW cI cZ a S)) (hS : va_S A s.heap H locs) (ls : Array Slot) (hl : lv_has ls 4 [(0, .ref (a 0)), (1, .int x1), (2, .int x2)]) : W p l e rm_X7_startIfDue s m args below meth c H locs 0 0 (MQ below (va_Qv (fun u : St => u = Z) (cWB dC dI cI cZ a A) A) args s 0 0 A) (F0 m 0 ls []) := by
  obtain ⟨hx, hb, hr, hml, hown, hts, hlocks⟩ := id C0
  rw [ok_X7_startIfDue] at hok
  rw [rs_X7_startIfDue] at hZ
  refine lv_aload_n hx hb dX7_startIfDue_0 rfl (lv_at hl 0 rfl) ?_
  refine va_get (D := (dC, dI)) (ci := 6) (v := .ref (a 11)) (C := RX7) (T := TX7) (N := 8) hx hb hts iX7_startIfDue_X7 hown hK hP 0 rfl rfl 3 (by decide) (hts (.fieldLink RX7 26 "RiskHouse" "editions" "LRiskHouse$Editions;") (by decide +kernel)) (fun _ h9 => h9) rfl dX7_startIfDue_1 ?_
  refine lv_iload_n hx hb dX7_startIfDue_4 rfl (lv_at hl 1 rfl) ?_
  obtain ⟨k_1, hok⟩ := hok
  have hFc := wFw (w := cW cI cZ a S) hD hS hA
  refine va_calli (va_runV (As := [.int x1]) (rest := []) ⟨hx, hb, hml, hown, hts⟩ (c_X2_isDue l dC dI cI cZ a H.size S x1 k_1) (cwV 1 hts gX7_startIfDue_X2_isDue rfl rfl rfl (by decide +kernel) ⟨Nat.le_of_ble_eq_true rfl, Nat.le_of_ble_eq_true rfl⟩) ⟨wBl, va_recv hK hP (ci := 1) (q0 := 11) rfl rfl, fun U hU hW => ⟨rfl, by rw [hU], by rw [hU]; exact hP, va_K.moved hW.alike hK, hD.weaken (fun _ _ _ _ => trivial)⟩⟩ rfl rfl hl.1 rfl (lv_room (Nat.le_of_ble_eq_true rfl)) dX7_startIfDue_5 ⟨Nat.zero_le _, Nat.zero_le _⟩) hS (fun q _ h => hFc q h) hFc (fun r u t H1 locs ht hvm hw hB hz1 hk1 hS => ?_)
  obtain ⟨hP, hD⟩ := wJn ht hFc hB.1 hB.2.2
  have e1 : r = (rs_X2_isDue S x1).1 := congrArg Prod.fst hw
  have e2 : u = (rs_X2_isDue S x1).2 := congrArg Prod.snd hw
  rw [e1]
  rw [e2] at hP hD
  generalize H1 = H at hP hS ⊢
  exact w_X7_startIfDue_8 C0 hK hA Z (rs_X2_isDue S x1).2 x1 x2 ((rs_X2_isDue S x1).1) hok hZ _ _ hP hD hS _ (lv_sub hl [0, 1, 2] rfl)
set_option maxHeartbeats 4000000 in
set_option maxRecDepth 100000 in
theorem c_X7_startIfDue (l : Launch) (dC : Nat → ClassId) (dI : Nat → Nat → Nat) (cI cZ : ClassId) (a : Nat → Nat) (sz : Nat) (S : St) (x1 : Int32) (x2 : Int32) (hok : ok_X7_startIfDue S x1 x2) : Met l yX7_startIfDue wsX7_startIfDue rm_X7_startIfDue (va_Pc [.ref (a 0), .int x1, .int x2] (cWP dC dI cI cZ a sz S)) (va_Qv (fun u : St => u = rs_X7_startIfDue S x1 x2) (cWB dC dI cI cZ a (va_A (cW cI cZ a S) sz)) (va_A (cW cI cZ a S) sz)) 0 0 (va_A (cW cI cZ a S) sz) := by
  refine Met.ofW (cc := cX7_startIfDue) (maxL := 4) (ret := none) (by decide) rfl ?_
  intro p e s m args below meth c s₁ B hml hv
  obtain ⟨rfl, hsz, hP, hK, hD0⟩ := hv
  subst hsz
  have hD := hD0.self (sz := s.heap.size)
  have hl := lv_entry ([.ref (a 0), .int x1, .int x2]) (n := 4) (Nat.le_of_ble_eq_true rfl)
  rw [lg_entry_eq]
  generalize (lg_sl ([.ref (a 0), .int x1, .int x2]) ++ List.replicate (4 - (lg_sl ([.ref (a 0), .int x1, .int x2])).length) Slot.unset).toArray = ls at hl ⊢
  have hl : lv_has ls 4 [(0, .ref (a 0)), (1, .int x1), (2, .int x2)] := hl
  exact w_X7_startIfDue ⟨B.exec, B.bytes, B.returns, hml, findClass_of_methodNamed B.named, atoms_spec (ws := wsX7_startIfDue) B.pre, B.notSynchronized⟩ hK (fun q h => Or.inr h) _ S x1 x2 hok rfl _ _ hP hD va_S.rf ls hl
abbrev rm_X7_runPlainRules : Room := { frames := 5, cells := 0, slots := 0, locals := 119 }
theorem iX7_runPlainRules_X5 : ∀ w ∈ wsX50, w ∈ wsX7_runPlainRules := by decide +kernel
theorem iX7_runPlainRules_X7 : ∀ w ∈ wsX70, w ∈ wsX7_runPlainRules := by decide +kernel
def rs_X7_runPlainRules_76 (k : St → Int32 → Int32 → Int32 → Int32 × St) (S : St) (x1 : Int32) (x2 : Int32) (x3 : Int32) : Int32 × St := (k S x1 x2 (x3 + 1))
def ok_X7_runPlainRules_76 (kk : St → Int32 → Int32 → Int32 → Prop) (S : St) (x1 : Int32) (x2 : Int32) (x3 : Int32) : Prop := kk S x1 x2 (x3 + 1)
set_option maxHeartbeats 4000000 in
set_option maxRecDepth 100000 in
theorem w_X7_runPlainRules_76 {p : Program} {l : Launch} {e : Env} {s : State} {m : MethodId} {args : Array Value} {below : List Frame} {meth : Method} {c : Code} {dC : Nat → ClassId} {dI : Nat → Nat → Nat} {cI cZ : ClassId} {a : Nat → Nat} {A : Nat → Prop} (C0 : Cx p s m args meth c RX7 cX7_runPlainRules (some .int) 4 wsX7_runPlainRules) (hK : va_K (dC, dI) vwCl (tI cI cZ) s) (hA : ∀ q, s.heap.size ≤ q → A q) (Z : Int32 × St) (k : St → Int32 → Int32 → Int32 → Int32 × St) (kk : St → Int32 → Int32 → Int32 → Prop) (hk : ∀ (S : St) (x1 : Int32) (x2 : Int32) (x3 : Int32) (hok : kk S x1 x2 x3) (hZ : k S x1 x2 x3 = Z) (H : Heap) (locs : List Loc) (hP : va_P (dC, dI) vwCl (cW cI cZ a S) H) (hD : va_D A (cW cI cZ a S)) (hS : va_S A s.heap H locs) (ls : Array Slot) (hl : lv_has ls 4 [(0, .ref (a 0)), (1, .int x1), (2, .int x2), (3, .int x3)]), W p l e rm_X7_runPlainRules s m args below meth c H locs 0 0 (MQ below (va_Qi (fun (r : Int32) (u : St) => (r, u) = Z) (cWB dC dI cI cZ a A) A) args s 0 0 A) (F0 m 4 ls [])) (S : St) (x1 : Int32) (x2 : Int32) (x3 : Int32) (hok : ok_X7_runPlainRules_76 kk S x1 x2 x3) (hZ : rs_X7_runPlainRules_76 k S x1 x2 x3 = Z) (H : Heap) (locs : List Loc) (hP : va_P (dC, dI) vwCl (cW cI cZ a S) H) (hD : va_D A (cW cI cZ a S)) (hS : va_S A s.heap H locs) (ls : Array Slot) (hl : lv_has ls 4 [(0, .ref (a 0)), (1, .int x1), (2, .int x2), (3, .int x3)]) : W p l e rm_X7_runPlainRules s m args below meth c H locs 0 0 (MQ below (va_Qi (fun (r : Int32) (u : St) => (r, u) = Z) (cWB dC dI cI cZ a A) A) args s 0 0 A) (F0 m 76 ls []) := by
  obtain ⟨hx, hb, hr, hml, hown, hts, hlocks⟩ := id C0
  rw [ok_X7_runPlainRules_76] at hok
  rw [rs_X7_runPlainRules_76] at hZ
  refine lv_iinc (v := (x3 + 1)) (lv' := [(3, .int (x3 + 1)), (0, .ref (a 0)), (1, .int x1), (2, .int x2)]) hx hb dX7_runPlainRules_76 hl (k := 3) rfl rfl (by decide) rfl (fun ls hl => ?_)
  refine lv_goto (tgt := 4) hx hb dX7_runPlainRules_79 (by decide) ?_
  exact hk S x1 x2 (x3 + 1) hok hZ _ _ hP hD hS _ (lv_sub hl [1, 2, 3, 0] rfl)
def rs_X7_runPlainRules_52 (k : St → Int32 → Int32 → Int32 → Int32 × St) (S : St) (x1 : Int32) (x2 : Int32) (x3 : Int32) (z0 : Int32) : Int32 × St := (if z0 = 0 then (rs_X7_runPlainRules_76 k S x1 x2 x3) else (rs_X7_runPlainRules_76 k S x1 (x2 + (if 0 < (if ((S.2 7) x3.toNatClampNeg) < 100 then ((S.2 7) x3.toNatClampNeg) else 100) then (if ((S.2 7) x3.toNatClampNeg) < 100 then ((S.2 7) x3.toNatClampNeg) else 100) else 0)) x3))
def ok_X7_runPlainRules_52 (kk : St → Int32 → Int32 → Int32 → Prop) (S : St) (x1 : Int32) (x2 : Int32) (x3 : Int32) (z0 : Int32) : Prop := (if z0 = 0 then ok_X7_runPlainRules_76 kk S x1 x2 x3 else ((vp_in x3 12) ∧ ok_X7_runPlainRules_76 kk S x1 (x2 + (if 0 < (if ((S.2 7) x3.toNatClampNeg) < 100 then ((S.2 7) x3.toNatClampNeg) else 100) then (if ((S.2 7) x3.toNatClampNeg) < 100 then ((S.2 7) x3.toNatClampNeg) else 100) else 0)) x3))
set_option maxHeartbeats 4000000 in
set_option maxRecDepth 100000 in
theorem w_X7_runPlainRules_52 {p : Program} {l : Launch} {e : Env} {s : State} {m : MethodId} {args : Array Value} {below : List Frame} {meth : Method} {c : Code} {dC : Nat → ClassId} {dI : Nat → Nat → Nat} {cI cZ : ClassId} {a : Nat → Nat} {A : Nat → Prop} (C0 : Cx p s m args meth c RX7 cX7_runPlainRules (some .int) 4 wsX7_runPlainRules) (hK : va_K (dC, dI) vwCl (tI cI cZ) s) (hA : ∀ q, s.heap.size ≤ q → A q) (Z : Int32 × St) (k : St → Int32 → Int32 → Int32 → Int32 × St) (kk : St → Int32 → Int32 → Int32 → Prop) (hk : ∀ (S : St) (x1 : Int32) (x2 : Int32) (x3 : Int32) (hok : kk S x1 x2 x3) (hZ : k S x1 x2 x3 = Z) (H : Heap) (locs : List Loc) (hP : va_P (dC, dI) vwCl (cW cI cZ a S) H) (hD : va_D A (cW cI cZ a S)) (hS : va_S A s.heap H locs) (ls : Array Slot) (hl : lv_has ls 4 [(0, .ref (a 0)), (1, .int x1), (2, .int x2), (3, .int x3)]), W p l e rm_X7_runPlainRules s m args below meth c H locs 0 0 (MQ below (va_Qi (fun (r : Int32) (u : St) => (r, u) = Z) (cWB dC dI cI cZ a A) A) args s 0 0 A) (F0 m 4 ls [])) (S : St) (x1 : Int32) (x2 : Int32) (x3 : Int32) (z0 : Int32) (hok : ok_X7_runPlainRules_52 kk S x1 x2 x3 z0) (hZ : rs_X7_runPlainRules_52 k S x1 x2 x3 z0 = Z) (H : Heap) (locs : List Loc) (hP : va_P (dC, dI) vwCl (cW cI cZ a S) H) (hD : va_D A (cW cI cZ a S)) (hS : va_S A s.heap H locs) (ls : Array Slot) (hl : lv_has ls 4 [(0, .ref (a 0)), (1, .int x1), (2, .int x2), (3, .int x3)]) : W p l e rm_X7_runPlainRules s m args below meth c H locs 0 0 (MQ below (va_Qi (fun (r : Int32) (u : St) => (r, u) = Z) (cWB dC dI cI cZ a A) A) args s 0 0 A) (F0 m 52 ls [.int z0]) := by
  obtain ⟨hx, hb, hr, hml, hown, hts, hlocks⟩ := id C0
  rw [ok_X7_runPlainRules_52] at hok
  rw [rs_X7_runPlainRules_52] at hZ
  refine lv_if_eq (tgt := 76) hx hb dX7_runPlainRules_52 (by decide) (fun c_1 => ?_) (fun c_1 => ?_)
  · have hok := okT hok c_1
    have hZ := rsT hZ c_1
    exact w_X7_runPlainRules_76 C0 hK hA Z k kk hk S x1 x2 x3 hok hZ _ _ hP hD hS _ (lv_sub hl [0, 1, 2, 3] rfl)
  · have hok := okF hok c_1
    have hZ := rsF hZ c_1
    refine lv_iload_n hx hb dX7_runPlainRules_55 rfl (lv_at hl 2 rfl) ?_
    refine lv_iconst (v := 0) hx hb dX7_runPlainRules_56 (by decide) ?_
    refine lv_bipush (v := 100) hx hb dX7_runPlainRules_57 (by decide) ?_
    refine lv_aload_n hx hb dX7_runPlainRules_59 rfl (lv_at hl 0 rfl) ?_
    refine va_get (D := (dC, dI)) (ci := 6) (v := .ref (a 3)) (C := RX7) (T := TX7) (N := 8) hx hb hts iX7_runPlainRules_X7 hown hK hP 0 rfl rfl 2 (by decide) (hts (.fieldLink RX7 19 "RiskHouse" "rules" "LRiskHouse$Rules;") (by decide +kernel)) (fun _ h9 => h9) rfl dX7_runPlainRules_60 ?_
    refine va_get (D := (dC, dI)) (ci := 4) (v := .ref (a 7)) (C := RX5) (T := TX5) (N := 8) hx hb hts iX7_runPlainRules_X5 hown hK hP 3 rfl rfl 3 (by decide) (hts (.fieldLink RX7 215 "RiskHouse$Rules" "value" "[I") (by decide +kernel)) (fun _ h9 => h9) rfl dX7_runPlainRules_63 ?_
    refine lv_iload_n hx hb dX7_runPlainRules_66 rfl (lv_at hl 3 rfl) ?_
    obtain ⟨h_2, hok⟩ := hok
    refine va_iald (f := (S.2 7)) hx hb hK hP 7 0 rfl rfl h_2 dX7_runPlainRules_67 ?_
    refine va_mmin hx hb (by rw [hml]; exact hl.1.symm) hown (hts (.methodLink RX7 54 Lib.Math.min.name) (by decide +kernel)) (hts (.static Lib.Math.min.name) (by decide +kernel)) (hts (.initialized "java/lang/Math") (by decide +kernel)) (hts (.code Lib.Math.min.name Lib.Math.min.code 2 (some .int)) (by decide +kernel)) (Nat.le_of_ble_eq_true rfl) (Nat.le_of_ble_eq_true rfl) (Nat.zero_le _) (Nat.zero_le _) dX7_runPlainRules_68 ?_
    refine va_mmax hx hb (by rw [hml]; exact hl.1.symm) hown (hts (.methodLink RX7 60 Lib.Math.max.name) (by decide +kernel)) (hts (.static Lib.Math.max.name) (by decide +kernel)) (hts (.initialized "java/lang/Math") (by decide +kernel)) (hts (.code Lib.Math.max.name Lib.Math.max.code 2 (some .int)) (by decide +kernel)) (Nat.le_of_ble_eq_true rfl) (Nat.le_of_ble_eq_true rfl) (Nat.zero_le _) (Nat.zero_le _) dX7_runPlainRules_71 ?_
    refine lv_iadd hx hb dX7_runPlainRules_74 ?_
    refine lv_istore_n (lv' := [(2, .int (x2 + (if 0 < (if ((S.2 7) x3.toNatClampNeg) < 100 then ((S.2 7) x3.toNatClampNeg) else 100) then (if ((S.2 7) x3.toNatClampNeg) < 100 then ((S.2 7) x3.toNatClampNeg) else 100) else 0))), (0, .ref (a 0)), (1, .int x1), (3, .int x3)]) hx hb dX7_runPlainRules_75 rfl hl (by decide) rfl (fun ls hl => ?_)
    exact w_X7_runPlainRules_76 C0 hK hA Z k kk hk S x1 (x2 + (if 0 < (if ((S.2 7) x3.toNatClampNeg) < 100 then ((S.2 7) x3.toNatClampNeg) else 100) then (if ((S.2 7) x3.toNatClampNeg) < 100 then ((S.2 7) x3.toNatClampNeg) else 100) else 0)) x3 hok hZ _ _ hP hD hS _ (lv_sub hl [1, 2, 0, 3] rfl)
def rs_X7_runPlainRules_43 (k : St → Int32 → Int32 → Int32 → Int32 × St) (S : St) (x1 : Int32) (x2 : Int32) (x3 : Int32) (z0 : Int32) : Int32 × St := (if z0 = 0 then (rs_X7_runPlainRules_52 k (rs_X7_runRule S x3 x1).2 x1 x2 x3 ((rs_X7_runRule S x3 x1).1)) else (rs_X7_runPlainRules_76 k S x1 x2 x3))
def ok_X7_runPlainRules_43 (kk : St → Int32 → Int32 → Int32 → Prop) (S : St) (x1 : Int32) (x2 : Int32) (x3 : Int32) (z0 : Int32) : Prop := (if z0 = 0 then ((ok_X7_runRule S x3 x1) ∧ ok_X7_runPlainRules_52 kk (rs_X7_runRule S x3 x1).2 x1 x2 x3 ((rs_X7_runRule S x3 x1).1)) else ok_X7_runPlainRules_76 kk S x1 x2 x3)
set_option maxHeartbeats 4000000 in
set_option maxRecDepth 100000 in
theorem w_X7_runPlainRules_43 {p : Program} {l : Launch} {e : Env} {s : State} {m : MethodId} {args : Array Value} {below : List Frame} {meth : Method} {c : Code} {dC : Nat → ClassId} {dI : Nat → Nat → Nat} {cI cZ : ClassId} {a : Nat → Nat} {A : Nat → Prop} (C0 : Cx p s m args meth c RX7 cX7_runPlainRules (some .int) 4 wsX7_runPlainRules) (hK : va_K (dC, dI) vwCl (tI cI cZ) s) (hA : ∀ q, s.heap.size ≤ q → A q) (Z : Int32 × St) (k : St → Int32 → Int32 → Int32 → Int32 × St) (kk : St → Int32 → Int32 → Int32 → Prop) (hk : ∀ (S : St) (x1 : Int32) (x2 : Int32) (x3 : Int32) (hok : kk S x1 x2 x3) (hZ : k S x1 x2 x3 = Z) (H : Heap) (locs : List Loc) (hP : va_P (dC, dI) vwCl (cW cI cZ a S) H) (hD : va_D A (cW cI cZ a S)) (hS : va_S A s.heap H locs) (ls : Array Slot) (hl : lv_has ls 4 [(0, .ref (a 0)), (1, .int x1), (2, .int x2), (3, .int x3)]), W p l e rm_X7_runPlainRules s m args below meth c H locs 0 0 (MQ below (va_Qi (fun (r : Int32) (u : St) => (r, u) = Z) (cWB dC dI cI cZ a A) A) args s 0 0 A) (F0 m 4 ls [])) (S : St) (x1 : Int32) (x2 : Int32) (x3 : Int32) (z0 : Int32) (hok : ok_X7_runPlainRules_43 kk S x1 x2 x3 z0) (hZ : rs_X7_runPlainRules_43 k S x1 x2 x3 z0 = Z) (H : Heap) (locs : List Loc) (hP : va_P (dC, dI) vwCl (cW cI cZ a S) H) (hD : va_D A (cW cI cZ a S)) (hS : va_S A s.heap H locs) (ls : Array Slot) (hl : lv_has ls 4 [(0, .ref (a 0)), (1, .int x1), (2, .int x2), (3, .int x3)]) : W p l e rm_X7_runPlainRules s m args below meth c H locs 0 0 (MQ below (va_Qi (fun (r : Int32) (u : St) => (r, u) = Z) (cWB dC dI cI cZ a A) A) args s 0 0 A) (F0 m 43 ls [.int z0]) := by
  obtain ⟨hx, hb, hr, hml, hown, hts, hlocks⟩ := id C0
  rw [ok_X7_runPlainRules_43] at hok
  rw [rs_X7_runPlainRules_43] at hZ
  refine lv_if_ne (tgt := 76) hx hb dX7_runPlainRules_43 (by decide) (fun c_1 => ?_) (fun c_1 => ?_)
  · have hok := okF hok c_1
    have hZ := rsF hZ c_1
    exact w_X7_runPlainRules_76 C0 hK hA Z k kk hk S x1 x2 x3 hok hZ _ _ hP hD hS _ (lv_sub hl [0, 1, 2, 3] rfl)
  · have hok := okT hok c_1
    have hZ := rsT hZ c_1
    refine lv_aload_n hx hb dX7_runPlainRules_46 rfl (lv_at hl 0 rfl) ?_
    refine lv_iload_n hx hb dX7_runPlainRules_47 rfl (lv_at hl 3 rfl) ?_
    refine lv_iload_n hx hb dX7_runPlainRules_48 rfl (lv_at hl 1 rfl) ?_
    obtain ⟨k_2, hok⟩ := hok
    have hFc := wFw (w := cW cI cZ a S) hD hS hA
    refine va_calli (va_runV (As := [.int x3, .int x1]) (rest := []) ⟨hx, hb, hml, hown, hts⟩ (c_X7_runRule l dC dI cI cZ a H.size S x3 x1 k_2) (cwV 2 hts gX7_runPlainRules_X7_runRule rfl rfl rfl (by decide +kernel) ⟨Nat.le_of_ble_eq_true rfl, Nat.le_of_ble_eq_true rfl⟩) ⟨wBl, va_recv hK hP (ci := 6) (q0 := 0) rfl rfl, fun U hU hW => ⟨rfl, by rw [hU], by rw [hU]; exact hP, va_K.moved hW.alike hK, hD.weaken (fun _ _ _ _ => trivial)⟩⟩ rfl rfl hl.1 rfl (lv_room (Nat.le_of_ble_eq_true rfl)) dX7_runPlainRules_49 ⟨Nat.zero_le _, Nat.zero_le _⟩) hS (fun q _ h => hFc q h) hFc (fun r u t H1 locs ht hvm hw hB hz1 hk1 hS => ?_)
    obtain ⟨hP, hD⟩ := wJn ht hFc hB.1 hB.2.2
    have e1 : r = (rs_X7_runRule S x3 x1).1 := congrArg Prod.fst hw
    have e2 : u = (rs_X7_runRule S x3 x1).2 := congrArg Prod.snd hw
    rw [e1]
    rw [e2] at hP hD
    generalize H1 = H at hP hS ⊢
    exact w_X7_runPlainRules_52 C0 hK hA Z k kk hk (rs_X7_runRule S x3 x1).2 x1 x2 x3 ((rs_X7_runRule S x3 x1).1) hok hZ _ _ hP hD hS _ (lv_sub hl [0, 1, 2, 3] rfl)
def rs_X7_runPlainRules_4 : Nat → St → Int32 → Int32 → Int32 → Int32 × St
  | 0, S, x1, x2, x3 => (0, S)
  | n + 1, S, x1, x2, x3 => (if (S.1 127) ≤ x3 then ((if x2 < 1000 then x2 else 1000), S) else (if ((S.2 5) x3.toNatClampNeg) = 0 then (rs_X7_runPlainRules_43 (rs_X7_runPlainRules_4 n) (rs_X2_isBarred S ((S.2 4) x3.toNatClampNeg)).2 x1 x2 x3 ((rs_X2_isBarred S ((S.2 4) x3.toNatClampNeg)).1)) else (rs_X7_runPlainRules_76 (rs_X7_runPlainRules_4 n) S x1 x2 x3)))
def ok_X7_runPlainRules_4 : Nat → St → Int32 → Int32 → Int32 → Prop
  | 0, _, _, _, _ => False
  | n + 1, S, x1, x2, x3 => (if (S.1 127) ≤ x3 then True else ((vp_in x3 12) ∧ (if ((S.2 5) x3.toNatClampNeg) = 0 then ((vp_in x3 12) ∧ ((ok_X2_isBarred S ((S.2 4) x3.toNatClampNeg)) ∧ ok_X7_runPlainRules_43 (ok_X7_runPlainRules_4 n) (rs_X2_isBarred S ((S.2 4) x3.toNatClampNeg)).2 x1 x2 x3 ((rs_X2_isBarred S ((S.2 4) x3.toNatClampNeg)).1))) else ok_X7_runPlainRules_76 (ok_X7_runPlainRules_4 n) S x1 x2 x3)))
set_option maxHeartbeats 4000000 in
set_option maxRecDepth 100000 in
theorem w_X7_runPlainRules_4 {p : Program} {l : Launch} {e : Env} {s : State} {m : MethodId} {args : Array Value} {below : List Frame} {meth : Method} {c : Code} {dC : Nat → ClassId} {dI : Nat → Nat → Nat} {cI cZ : ClassId} {a : Nat → Nat} {A : Nat → Prop} (C0 : Cx p s m args meth c RX7 cX7_runPlainRules (some .int) 4 wsX7_runPlainRules) (hK : va_K (dC, dI) vwCl (tI cI cZ) s) (hA : ∀ q, s.heap.size ≤ q → A q) (Z : Int32 × St) : ∀ (n : Nat) (S : St) (x1 : Int32) (x2 : Int32) (x3 : Int32) (hok : ok_X7_runPlainRules_4 n S x1 x2 x3) (hZ : rs_X7_runPlainRules_4 n S x1 x2 x3 = Z) (H : Heap) (locs : List Loc) (hP : va_P (dC, dI) vwCl (cW cI cZ a S) H) (hD : va_D A (cW cI cZ a S)) (hS : va_S A s.heap H locs) (ls : Array Slot) (hl : lv_has ls 4 [(0, .ref (a 0)), (1, .int x1), (2, .int x2), (3, .int x3)]), W p l e rm_X7_runPlainRules s m args below meth c H locs 0 0 (MQ below (va_Qi (fun (r : Int32) (u : St) => (r, u) = Z) (cWB dC dI cI cZ a A) A) args s 0 0 A) (F0 m 4 ls []) := by
  obtain ⟨hx, hb, hr, hml, hown, hts, hlocks⟩ := id C0
  intro n
  induction n with
  | zero => intro S x1 x2 x3 hok; exact absurd hok (fun h => h)
  | succ n ih =>
    intro S x1 x2 x3 hok hZ H locs hP hD hS ls hl
    rw [ok_X7_runPlainRules_4] at hok
    rw [rs_X7_runPlainRules_4] at hZ
    refine lv_iload_n hx hb dX7_runPlainRules_4 rfl (lv_at hl 3 rfl) ?_
    refine lv_aload_n hx hb dX7_runPlainRules_5 rfl (lv_at hl 0 rfl) ?_
    refine va_get (D := (dC, dI)) (ci := 6) (v := .ref (a 3)) (C := RX7) (T := TX7) (N := 8) hx hb hts iX7_runPlainRules_X7 hown hK hP 0 rfl rfl 2 (by decide) (hts (.fieldLink RX7 19 "RiskHouse" "rules" "LRiskHouse$Rules;") (by decide +kernel)) (fun _ h9 => h9) rfl dX7_runPlainRules_6 ?_
    refine va_get (D := (dC, dI)) (ci := 4) (v := .int (S.1 127)) (C := RX5) (T := TX5) (N := 8) hx hb hts iX7_runPlainRules_X5 hown hK hP 3 rfl rfl 7 (by decide) (hts (.fieldLink RX7 87 "RiskHouse$Rules" "size" "I") (by decide +kernel)) (fun _ h9 => h9) rfl dX7_runPlainRules_9 ?_
    refine lv_icmp_ge (tgt := 82) hx hb dX7_runPlainRules_12 (by decide) (fun c_1 => ?_) (fun c_1 => ?_)
    · have hok := okT hok c_1
      have hZ := rsT hZ c_1
      refine lv_sipush (v := 1000) hx hb dX7_runPlainRules_82 (by decide) ?_
      refine lv_iload_n hx hb dX7_runPlainRules_85 rfl (lv_at hl 2 rfl) ?_
      refine va_mmin hx hb (by rw [hml]; exact hl.1.symm) hown (hts (.methodLink RX7 54 Lib.Math.min.name) (by decide +kernel)) (hts (.static Lib.Math.min.name) (by decide +kernel)) (hts (.initialized "java/lang/Math") (by decide +kernel)) (hts (.code Lib.Math.min.name Lib.Math.min.code 2 (some .int)) (by decide +kernel)) (Nat.le_of_ble_eq_true rfl) (Nat.le_of_ble_eq_true rfl) (Nat.zero_le _) (Nat.zero_le _) dX7_runPlainRules_86 ?_
      exact W.iret (v := (if x2 < 1000 then x2 else 1000)) hx hb hr (fun t ht hW => ⟨⟨(if x2 < 1000 then x2 else 1000), S, rfl, hZ, by rw [ht]; exact hP, va_K.moved hW.alike hK, hD⟩, hS.F ht⟩) hS.2.2 dX7_runPlainRules_89 hlocks
    · have hok := okF hok c_1
      have hZ := rsF hZ c_1
      refine lv_aload_n hx hb dX7_runPlainRules_15 rfl (lv_at hl 0 rfl) ?_
      refine va_get (D := (dC, dI)) (ci := 6) (v := .ref (a 3)) (C := RX7) (T := TX7) (N := 8) hx hb hts iX7_runPlainRules_X7 hown hK hP 0 rfl rfl 2 (by decide) (hts (.fieldLink RX7 19 "RiskHouse" "rules" "LRiskHouse$Rules;") (by decide +kernel)) (fun _ h9 => h9) rfl dX7_runPlainRules_16 ?_
      refine va_get (D := (dC, dI)) (ci := 4) (v := .ref (a 5)) (C := RX5) (T := TX5) (N := 8) hx hb hts iX7_runPlainRules_X5 hown hK hP 3 rfl rfl 1 (by decide) (hts (.fieldLink RX7 208 "RiskHouse$Rules" "start" "[Z") (by decide +kernel)) (fun _ h9 => h9) rfl dX7_runPlainRules_19 ?_
      refine lv_iload_n hx hb dX7_runPlainRules_22 rfl (lv_at hl 3 rfl) ?_
      obtain ⟨h_2, hok⟩ := hok
      refine va_zald (f := (S.2 5)) hx hb hK hP 5 1 rfl rfl h_2 dX7_runPlainRules_23 ?_
      refine lv_if_ne (tgt := 76) hx hb dX7_runPlainRules_24 (by decide) (fun c_3 => ?_) (fun c_3 => ?_)
      · have hok := okF hok c_3
        have hZ := rsF hZ c_3
        exact w_X7_runPlainRules_76 C0 hK hA Z (rs_X7_runPlainRules_4 n) (ok_X7_runPlainRules_4 n) ih S x1 x2 x3 hok hZ _ _ hP hD hS _ (lv_sub hl [0, 1, 2, 3] rfl)
      · have hok := okT hok c_3
        have hZ := rsT hZ c_3
        refine lv_aload_n hx hb dX7_runPlainRules_27 rfl (lv_at hl 0 rfl) ?_
        refine va_get (D := (dC, dI)) (ci := 6) (v := .ref (a 11)) (C := RX7) (T := TX7) (N := 8) hx hb hts iX7_runPlainRules_X7 hown hK hP 0 rfl rfl 3 (by decide) (hts (.fieldLink RX7 26 "RiskHouse" "editions" "LRiskHouse$Editions;") (by decide +kernel)) (fun _ h9 => h9) rfl dX7_runPlainRules_28 ?_
        refine lv_aload_n hx hb dX7_runPlainRules_31 rfl (lv_at hl 0 rfl) ?_
        refine va_get (D := (dC, dI)) (ci := 6) (v := .ref (a 3)) (C := RX7) (T := TX7) (N := 8) hx hb hts iX7_runPlainRules_X7 hown hK hP 0 rfl rfl 2 (by decide) (hts (.fieldLink RX7 19 "RiskHouse" "rules" "LRiskHouse$Rules;") (by decide +kernel)) (fun _ h9 => h9) rfl dX7_runPlainRules_32 ?_
        refine va_get (D := (dC, dI)) (ci := 4) (v := .ref (a 4)) (C := RX5) (T := TX5) (N := 8) hx hb hts iX7_runPlainRules_X5 hown hK hP 3 rfl rfl 0 (by decide) (hts (.fieldLink RX7 114 "RiskHouse$Rules" "edition" "[I") (by decide +kernel)) (fun _ h9 => h9) rfl dX7_runPlainRules_35 ?_
        refine lv_iload_n hx hb dX7_runPlainRules_38 rfl (lv_at hl 3 rfl) ?_
        obtain ⟨h_4, hok⟩ := hok
        refine va_iald (f := (S.2 4)) hx hb hK hP 4 0 rfl rfl h_4 dX7_runPlainRules_39 ?_
        obtain ⟨k_5, hok⟩ := hok
        have hFc := wFw (w := cW cI cZ a S) hD hS hA
        refine va_calli (va_runV (As := [.int ((S.2 4) x3.toNatClampNeg)]) (rest := []) ⟨hx, hb, hml, hown, hts⟩ (c_X2_isBarred l dC dI cI cZ a H.size S ((S.2 4) x3.toNatClampNeg) k_5) (cwV 1 hts gX7_runPlainRules_X2_isBarred rfl rfl rfl (by decide +kernel) ⟨Nat.le_of_ble_eq_true rfl, Nat.le_of_ble_eq_true rfl⟩) ⟨wBl, va_recv hK hP (ci := 1) (q0 := 11) rfl rfl, fun U hU hW => ⟨rfl, by rw [hU], by rw [hU]; exact hP, va_K.moved hW.alike hK, hD.weaken (fun _ _ _ _ => trivial)⟩⟩ rfl rfl hl.1 rfl (lv_room (Nat.le_of_ble_eq_true rfl)) dX7_runPlainRules_40 ⟨Nat.zero_le _, Nat.zero_le _⟩) hS (fun q _ h => hFc q h) hFc (fun r u t H1 locs ht hvm hw hB hz1 hk1 hS => ?_)
        obtain ⟨hP, hD⟩ := wJn ht hFc hB.1 hB.2.2
        have e1 : r = (rs_X2_isBarred S ((S.2 4) x3.toNatClampNeg)).1 := congrArg Prod.fst hw
        have e2 : u = (rs_X2_isBarred S ((S.2 4) x3.toNatClampNeg)).2 := congrArg Prod.snd hw
        rw [e1]
        rw [e2] at hP hD
        generalize H1 = H at hP hS ⊢
        exact w_X7_runPlainRules_43 C0 hK hA Z (rs_X7_runPlainRules_4 n) (ok_X7_runPlainRules_4 n) ih (rs_X2_isBarred S ((S.2 4) x3.toNatClampNeg)).2 x1 x2 x3 ((rs_X2_isBarred S ((S.2 4) x3.toNatClampNeg)).1) hok hZ _ _ hP hD hS _ (lv_sub hl [0, 1, 2, 3] rfl)
def rs_X7_runPlainRules (S : St) (x1 : Int32) : Int32 × St := (rs_X7_runPlainRules_4 100 S x1 0 0)
def ok_X7_runPlainRules (S : St) (x1 : Int32) : Prop := ok_X7_runPlainRules_4 100 S x1 0 0
set_option maxHeartbeats 4000000 in
set_option maxRecDepth 100000 in
theorem w_X7_runPlainRules {p : Program} {l : Launch} {e : Env} {s : State} {m : MethodId} {args : Array Value} {below : List Frame} {meth : Method} {c : Code} {dC : Nat → ClassId} {dI : Nat → Nat → Nat} {cI cZ : ClassId} {a : Nat → Nat} {A : Nat → Prop} (C0 : Cx p s m args meth c RX7 cX7_runPlainRules (some .int) 4 wsX7_runPlainRules) (hK : va_K (dC, dI) vwCl (tI cI cZ) s) (hA : ∀ q, s.heap.size ≤ q → A q) (Z : Int32 × St) (S : St) (x1 : Int32) (hok : ok_X7_runPlainRules S x1) (hZ : rs_X7_runPlainRules S x1 = Z) (H : Heap) (locs : List Loc) (hP : va_P (dC, dI) vwCl (cW cI cZ a S) H) (hD : va_D A (cW cI cZ a S)) (hS : va_S A s.heap H locs) (ls : Array Slot) (hl : lv_has ls 4 [(0, .ref (a 0)), (1, .int x1)]) : W p l e rm_X7_runPlainRules s m args below meth c H locs 0 0 (MQ below (va_Qi (fun (r : Int32) (u : St) => (r, u) = Z) (cWB dC dI cI cZ a A) A) args s 0 0 A) (F0 m 0 ls []) := by
  obtain ⟨hx, hb, hr, hml, hown, hts, hlocks⟩ := id C0
  rw [ok_X7_runPlainRules] at hok
  rw [rs_X7_runPlainRules] at hZ
  refine lv_iconst (v := 0) hx hb dX7_runPlainRules_0 (by decide) ?_
  refine lv_istore_n (lv' := [(2, .int 0), (0, .ref (a 0)), (1, .int x1)]) hx hb dX7_runPlainRules_1 rfl hl (by decide) rfl (fun ls hl => ?_)
  refine lv_iconst (v := 0) hx hb dX7_runPlainRules_2 (by decide) ?_
  refine lv_istore_n (lv' := [(3, .int 0), (2, .int 0), (0, .ref (a 0)), (1, .int x1)]) hx hb dX7_runPlainRules_3 rfl hl (by decide) rfl (fun ls hl => ?_)
  exact w_X7_runPlainRules_4 C0 hK hA Z 100 S x1 0 0 hok hZ _ _ hP hD hS _ (lv_sub hl [2, 3, 1, 0] rfl)
set_option maxHeartbeats 4000000 in
set_option maxRecDepth 100000 in
theorem c_X7_runPlainRules (l : Launch) (dC : Nat → ClassId) (dI : Nat → Nat → Nat) (cI cZ : ClassId) (a : Nat → Nat) (sz : Nat) (S : St) (x1 : Int32) (hok : ok_X7_runPlainRules S x1) : Met l yX7_runPlainRules wsX7_runPlainRules rm_X7_runPlainRules (va_Pc [.ref (a 0), .int x1] (cWP dC dI cI cZ a sz S)) (va_Qi (fun (r : Int32) (u : St) => (r, u) = rs_X7_runPlainRules S x1) (cWB dC dI cI cZ a (va_A (cW cI cZ a S) sz)) (va_A (cW cI cZ a S) sz)) 0 0 (va_A (cW cI cZ a S) sz) := by
  refine Met.ofW (cc := cX7_runPlainRules) (maxL := 4) (ret := (some .int)) (by decide) rfl ?_
  intro p e s m args below meth c s₁ B hml hv
  obtain ⟨rfl, hsz, hP, hK, hD0⟩ := hv
  subst hsz
  have hD := hD0.self (sz := s.heap.size)
  have hl := lv_entry ([.ref (a 0), .int x1]) (n := 4) (Nat.le_of_ble_eq_true rfl)
  rw [lg_entry_eq]
  generalize (lg_sl ([.ref (a 0), .int x1]) ++ List.replicate (4 - (lg_sl ([.ref (a 0), .int x1])).length) Slot.unset).toArray = ls at hl ⊢
  have hl : lv_has ls 4 [(0, .ref (a 0)), (1, .int x1)] := hl
  exact w_X7_runPlainRules ⟨B.exec, B.bytes, B.returns, hml, findClass_of_methodNamed B.named, atoms_spec (ws := wsX7_runPlainRules) B.pre, B.notSynchronized⟩ hK (fun q h => Or.inr h) _ S x1 hok rfl _ _ hP hD va_S.rf ls hl
