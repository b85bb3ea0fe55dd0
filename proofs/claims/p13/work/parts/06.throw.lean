abbrev rm_X7_rule : Room := { frames := 6, cells := 1, slots := 6, locals := 82 }
theorem xm_X7_rule_84 : ∀ w ∈ (vx_atS RX7 84 "java/lang/IllegalArgumentException" ["java/lang/RuntimeException", "java/lang/Exception"]).filter goodWord, w ∈ wsX7_rule := by decide +kernel
theorem xm_X7_rule_99 : ∀ w ∈ (vx_atS RX7 99 "java/lang/IllegalStateException" ["java/lang/RuntimeException", "java/lang/Exception"]).filter goodWord, w ∈ wsX7_rule := by decide +kernel
theorem iX7_rule_X2 : ∀ w ∈ wsX20, w ∈ wsX7_rule := by decide +kernel
theorem iX7_rule_X5 : ∀ w ∈ wsX50, w ∈ wsX7_rule := by decide +kernel
theorem iX7_rule_X7 : ∀ w ∈ wsX70, w ∈ wsX7_rule := by decide +kernel
def rs_X7_rule_41 (S : St)  : Int32 × Int32 × St := (2, 0, S)
def ok_X7_rule_41 (S : St)  : Prop := True
set_option maxHeartbeats 4000000 in
set_option maxRecDepth 100000 in
theorem w_X7_rule_41 {p : Program} {l : Launch} {e : Env} {s : State} {m : MethodId} {args : Array Value} {below : List Frame} {meth : Method} {c : Code} {dC : Nat → ClassId} {dI : Nat → Nat → Nat} {cI cZ : ClassId} {a : Nat → Nat} {A : Nat → Prop} (C0 : Cx p s m args meth c RX7 cX7_rule (some .int) 3 wsX7_rule) (hK : va_K (dC, dI) vwCl (tI cI cZ) s) (hA : ∀ q, s.heap.size ≤ q → A q) (hex : exE A s) (htr : l.stackTraces = false) (hnt : ∀ x ∈ c.exceptionTable.toList, False) (Z : Int32 × Int32 × St) (S : St)  (hok : ok_X7_rule_41 S) (hZ : rs_X7_rule_41 S = Z) (H : Heap) (locs : List Loc) (hP : va_P (dC, dI) vwCl (cW cI cZ a S) H) (hD : va_D A (cW cI cZ a S)) (hS : va_S A s.heap H locs) (ls : Array Slot) (hl : lv_has ls 3 []) : W p l e rm_X7_rule s m args below meth c H locs 0 0 (vx_MQ below (va_Qi (fun (r : Int32) (u : St) => (0, r, u) = Z) (cWB dC dI cI cZ a A) A) (exX dC dI cI cZ a A Z) args s 1 6 A) (F0 m 41 ls []) := by
  obtain ⟨hx, hb, hr, hml, hown, hts, hlocks⟩ := id C0
  rw [ok_X7_rule_41] at hok
  rw [rs_X7_rule_41] at hZ
  obtain ⟨sa, hstr⟩ := hex.2.2.1 (97, "no more rules, or the edition has started") (by decide)
  refine vx_throwS (names := ["java/lang/RuntimeException", "java/lang/Exception"]) hx hb htr hown (by decide +kernel) (by decide +kernel) (hts (.classLink RX7 95 "java/lang/IllegalStateException") (by decide +kernel)) (hts (.initialized "java/lang/IllegalStateException") (by decide +kernel)) hstr (vx_hat (B := .castable "java/lang/IllegalStateException" "java/lang/IllegalStateException" :: exD.map Cond.declares) (fun w h => hts w (xm_X7_rule_99 w h)) (by decide +kernel) (vx_c (va_Nw.use rfl (hex.2.2.2.1 "java/lang/IllegalStateException" (by decide))) (exE.dc hex))) (by decide +kernel) hex.1 hex.2.1 hS (hl.1.trans hml.symm) dX7_rule_41 dX7_rule_44 dX7_rule_45 dX7_rule_47 dX7_rule_50 (fun x h => (hnt x h).elim) (Nat.le_of_ble_eq_true rfl) (Nat.le_of_ble_eq_true rfl) (Nat.le_of_ble_eq_true rfl) (Nat.le_of_ble_eq_true rfl) hlocks (fun t hvm hz hk9 => ⟨S, trivial, ⟨by decide, hZ, hP.kept (fun k q hq => hk9 q.1 (hP k q hq).lt), va_K.moved hvm hK, hD⟩, Nat.le_trans hS.1 hz, fun q h1 h2 => (hk9 q (Nat.lt_of_lt_of_le h1 hS.1)).trans (hS.2.1 q h1 h2)⟩) hS.2.2 (Nat.le_of_ble_eq_true rfl) (Nat.le_of_ble_eq_true rfl)
def rs_X7_rule_73 (S : St) (z0 : Int32) : Int32 × Int32 × St := (0, z0, S)
def ok_X7_rule_73 (S : St) (z0 : Int32) : Prop := True
set_option maxHeartbeats 4000000 in
set_option maxRecDepth 100000 in
theorem w_X7_rule_73 {p : Program} {l : Launch} {e : Env} {s : State} {m : MethodId} {args : Array Value} {below : List Frame} {meth : Method} {c : Code} {dC : Nat → ClassId} {dI : Nat → Nat → Nat} {cI cZ : ClassId} {a : Nat → Nat} {A : Nat → Prop} (C0 : Cx p s m args meth c RX7 cX7_rule (some .int) 3 wsX7_rule) (hK : va_K (dC, dI) vwCl (tI cI cZ) s) (hA : ∀ q, s.heap.size ≤ q → A q) (hex : exE A s) (htr : l.stackTraces = false) (hnt : ∀ x ∈ c.exceptionTable.toList, False) (Z : Int32 × Int32 × St) (S : St) (z0 : Int32) (hok : ok_X7_rule_73 S z0) (hZ : rs_X7_rule_73 S z0 = Z) (H : Heap) (locs : List Loc) (hP : va_P (dC, dI) vwCl (cW cI cZ a S) H) (hD : va_D A (cW cI cZ a S)) (hS : va_S A s.heap H locs) (ls : Array Slot) (hl : lv_has ls 3 []) : W p l e rm_X7_rule s m args below meth c H locs 0 0 (vx_MQ below (va_Qi (fun (r : Int32) (u : St) => (0, r, u) = Z) (cWB dC dI cI cZ a A) A) (exX dC dI cI cZ a A Z) args s 1 6 A) (F0 m 73 ls [.int z0]) := by
  obtain ⟨hx, hb, hr, hml, hown, hts, hlocks⟩ := id C0
  rw [ok_X7_rule_73] at hok
  rw [rs_X7_rule_73] at hZ
  refine vx_ret (W.widen (k := 1) (n := 6) (Nat.le_of_ble_eq_true rfl) (Nat.le_of_ble_eq_true rfl) ?_)
  exact W.iret (v := z0) hx hb hr (fun t ht hW => ⟨⟨z0, S, rfl, hZ, by rw [ht]; exact hP, va_K.moved hW.alike hK, hD⟩, hS.F ht⟩) hS.2.2 dX7_rule_73 hlocks
def rs_X7_rule_38 (S : St) (x1 : Int32) (x2 : Int32) (z0 : Int32) : Int32 × Int32 × St := (if z0 = 0 then (rs_X7_rule_73 (rs_X5_add (sA S 14 x1.toNatClampNeg (((S.2 14) x1.toNatClampNeg) + 1)) x1 x2).2 ((rs_X5_add (sA S 14 x1.toNatClampNeg (((S.2 14) x1.toNatClampNeg) + 1)) x1 x2).1)) else (rs_X7_rule_41 S))
def ok_X7_rule_38 (S : St) (x1 : Int32) (x2 : Int32) (z0 : Int32) : Prop := (if z0 = 0 then ((vp_in x1 4) ∧ ((vp_in x1 4) ∧ ((ok_X5_add (sA S 14 x1.toNatClampNeg (((S.2 14) x1.toNatClampNeg) + 1)) x1 x2) ∧ ok_X7_rule_73 (rs_X5_add (sA S 14 x1.toNatClampNeg (((S.2 14) x1.toNatClampNeg) + 1)) x1 x2).2 ((rs_X5_add (sA S 14 x1.toNatClampNeg (((S.2 14) x1.toNatClampNeg) + 1)) x1 x2).1)))) else ok_X7_rule_41 S)
set_option maxHeartbeats 4000000 in
set_option maxRecDepth 100000 in
theorem w_X7_rule_38 {p : Program} {l : Launch} {e : Env} {s : State} {m : MethodId} {args : Array Value} {below : List Frame} {meth : Method} {c : Code} {dC : Nat → ClassId} {dI : Nat → Nat → Nat} {cI cZ : ClassId} {a : Nat → Nat} {A : Nat → Prop} (C0 : Cx p s m args meth c RX7 cX7_rule (some .int) 3 wsX7_rule) (hK : va_K (dC, dI) vwCl (tI cI cZ) s) (hA : ∀ q, s.heap.size ≤ q → A q) (hex : exE A s) (htr : l.stackTraces = false) (hnt : ∀ x ∈ c.exceptionTable.toList, False) (Z : Int32 × Int32 × St) (S : St) (x1 : Int32) (x2 : Int32) (z0 : Int32) (hok : ok_X7_rule_38 S x1 x2 z0) (hZ : rs_X7_rule_38 S x1 x2 z0 = Z) (H : Heap) (locs : List Loc) (hP : va_P (dC, dI) vwCl (cW cI cZ a S) H) (hD : va_D A (cW cI cZ a S)) (hS : va_S A s.heap H locs) (ls : Array Slot) (hl : lv_has ls 3 [(0, .ref (a 0)), (1, .int x1), (2, .int x2)]) : W p l e rm_X7_rule s m args below meth c H locs 0 0 (vx_MQ below (va_Qi (fun (r : Int32) (u : St) => (0, r, u) = Z) (cWB dC dI cI cZ a A) A) (exX dC dI cI cZ a A Z) args s 1 6 A) (F0 m 38 ls [.int z0]) := by
  obtain ⟨hx, hb, hr, hml, hown, hts, hlocks⟩ := id C0
  rw [ok_X7_rule_38] at hok
  rw [rs_X7_rule_38] at hZ
  refine lv_if_eq (tgt := 51) hx hb dX7_rule_38 (by decide) (fun c_1 => ?_) (fun c_1 => ?_)
  · have hok := okT hok c_1
    have hZ := rsT hZ c_1
    refine lv_aload_n hx hb dX7_rule_51 rfl (lv_at hl 0 rfl) ?_
    refine va_get (D := (dC, dI)) (ci := 6) (v := .ref (a 11)) (C := RX7) (T := TX7) (N := 8) hx hb hts iX7_rule_X7 hown hK hP 0 rfl rfl 3 (by decide) (hts (.fieldLink RX7 26 "RiskHouse" "editions" "LRiskHouse$Editions;") (by decide +kernel)) (fun _ h9 => h9) rfl dX7_rule_52 ?_
    refine va_get (D := (dC, dI)) (ci := 1) (v := .ref (a 14)) (C := RX2) (T := TX2) (N := 3) hx hb hts iX7_rule_X2 hown hK hP 11 rfl rfl 2 (by decide) (hts (.fieldLink RX7 100 "RiskHouse$Editions" "rules" "[I") (by decide +kernel)) (fun _ h9 => h9) rfl dX7_rule_55 ?_
    refine lv_iload_n hx hb dX7_rule_58 rfl (lv_at hl 1 rfl) ?_
    refine lv_dup2_11 hx hb dX7_rule_59 rfl rfl ?_
    obtain ⟨h_2, hok⟩ := hok
    refine va_iald (f := (S.2 14)) hx hb hK hP 14 0 rfl rfl h_2 dX7_rule_60 ?_
    refine lv_iconst (v := 1) hx hb dX7_rule_61 (by decide) ?_
    refine lv_iadd hx hb dX7_rule_62 ?_
    obtain ⟨h_3, hok⟩ := hok
    refine va_iast hx hb hK hP hD hS 14 0 rfl rfl h_3 dX7_rule_63 (fun H locs hP hD hS => ?_)
    have hP : va_P (dC, dI) vwCl (cW cI cZ a (sA S 14 x1.toNatClampNeg (((S.2 14) x1.toNatClampNeg) + 1))) H := hP
    have hD : va_D A (cW cI cZ a (sA S 14 x1.toNatClampNeg (((S.2 14) x1.toNatClampNeg) + 1))) := hD
    refine lv_aload_n hx hb dX7_rule_64 rfl (lv_at hl 0 rfl) ?_
    refine va_get (D := (dC, dI)) (ci := 6) (v := .ref (a 3)) (C := RX7) (T := TX7) (N := 8) hx hb hts iX7_rule_X7 hown hK hP 0 rfl rfl 2 (by decide) (hts (.fieldLink RX7 19 "RiskHouse" "rules" "LRiskHouse$Rules;") (by decide +kernel)) (fun _ h9 => h9) rfl dX7_rule_65 ?_
    refine lv_iload_n hx hb dX7_rule_68 rfl (lv_at hl 1 rfl) ?_
    refine lv_iload_n hx hb dX7_rule_69 rfl (lv_at hl 2 rfl) ?_
    obtain ⟨k_4, hok⟩ := hok
    have hFc := wFw (w := cW cI cZ a (sA S 14 x1.toNatClampNeg (((S.2 14) x1.toNatClampNeg) + 1))) hD hS hA
    refine va_calli (va_runV (As := [.int x1, .int x2]) (rest := []) ⟨hx, hb, hml, hown, hts⟩ (c_X5_add l dC dI cI cZ a H.size (sA S 14 x1.toNatClampNeg (((S.2 14) x1.toNatClampNeg) + 1)) x1 x2 k_4) (cwV 2 hts gX7_rule_X5_add rfl rfl rfl (by decide +kernel) ⟨Nat.le_of_ble_eq_true rfl, Nat.le_of_ble_eq_true rfl⟩) ⟨wBl, va_recv hK hP (ci := 4) (q0 := 3) rfl rfl, fun U hU hW => ⟨rfl, by rw [hU], by rw [hU]; exact hP, va_K.moved hW.alike hK, hD.weaken (fun _ _ _ _ => trivial)⟩⟩ rfl rfl hl.1 rfl (lv_room (Nat.le_of_ble_eq_true rfl)) dX7_rule_70 ⟨Nat.zero_le _, Nat.zero_le _⟩) hS (fun q _ h => hFc q h) hFc (fun r u t H1 locs ht hvm hw hB hz1 hk1 hS => ?_)
    obtain ⟨hP, hD⟩ := wJn ht hFc hB.1 hB.2.2
    have e1 : r = (rs_X5_add (sA S 14 x1.toNatClampNeg (((S.2 14) x1.toNatClampNeg) + 1)) x1 x2).1 := congrArg Prod.fst hw
    have e2 : u = (rs_X5_add (sA S 14 x1.toNatClampNeg (((S.2 14) x1.toNatClampNeg) + 1)) x1 x2).2 := congrArg Prod.snd hw
    rw [e1]
    rw [e2] at hP hD
    generalize H1 = H at hP hS ⊢
    exact w_X7_rule_73 C0 hK hA hex htr hnt Z (rs_X5_add (sA S 14 x1.toNatClampNeg (((S.2 14) x1.toNatClampNeg) + 1)) x1 x2).2 ((rs_X5_add (sA S 14 x1.toNatClampNeg (((S.2 14) x1.toNatClampNeg) + 1)) x1 x2).1) hok hZ _ _ hP hD hS _ (lv_sub hl [] rfl)
  · have hok := okF hok c_1
    have hZ := rsF hZ c_1
    exact w_X7_rule_41 C0 hK hA hex htr hnt Z S hok hZ _ _ hP hD hS _ (lv_sub hl [] rfl)
def rs_X7_rule (S : St) (x1 : Int32) (x2 : Int32) : Int32 × Int32 × St := (if (rs_X7_isBelow x1 4) = 0 then (1, 0, S) else (if 12 ≤ (S.1 127) then (rs_X7_rule_41 S) else (rs_X7_rule_38 (rs_X2_hasStarted S x1).2 x1 x2 ((rs_X2_hasStarted S x1).1))))
def ok_X7_rule (S : St) (x1 : Int32) (x2 : Int32) : Prop := ((ok_X7_isBelow x1 4) ∧ (if (rs_X7_isBelow x1 4) = 0 then True else (if 12 ≤ (S.1 127) then ok_X7_rule_41 S else ((ok_X2_hasStarted S x1) ∧ ok_X7_rule_38 (rs_X2_hasStarted S x1).2 x1 x2 ((rs_X2_hasStarted S x1).1)))))
set_option maxHeartbeats 4000000 in
set_option maxRecDepth 100000 in
theorem w_X7_rule {p : Program} {l : Launch} {e : Env} {s : State} {m : MethodId} {args : Array Value} {below : List Frame} {meth : Method} {c : Code} {dC : Nat → ClassId} {dI : Nat → Nat → Nat} {cI cZ : ClassId} {a : Nat → Nat} {A : Nat → Prop} (C0 : Cx p s m args meth c RX7 cX7_rule (some .int) 3 wsX7_rule) (hK : va_K (dC, dI) vwCl (tI cI cZ) s) (hA : ∀ q, s.heap.size ≤ q → A q) (hex : exE A s) (htr : l.stackTraces = false) (hnt : ∀ x ∈ c.exceptionTable.toList, False) (Z : Int32 × Int32 × St) (S : St) (x1 : Int32) (x2 : Int32) (hok : ok_X7_rule S x1 x2) (hZ : rs_X7_rule S x1 x2 = Z) (H : Heap) (locs : List Loc) (hP : va_P (dC, dI) vwCl (cW cI cZ a S) H) (hD : va_D A (cW cI cZ a S)) (hS : va_S A s.heap H locs) (ls : Array Slot) (hl : lv_has ls 3 [(0, .ref (a 0)), (1, .int x1), (2, .int x2)]) : W p l e rm_X7_rule s m args below meth c H locs 0 0 (vx_MQ below (va_Qi (fun (r : Int32) (u : St) => (0, r, u) = Z) (cWB dC dI cI cZ a A) A) (exX dC dI cI cZ a A Z) args s 1 6 A) (F0 m 0 ls []) := by
  obtain ⟨hx, hb, hr, hml, hown, hts, hlocks⟩ := id C0
  rw [ok_X7_rule] at hok
  rw [rs_X7_rule] at hZ
  refine lv_iload_n hx hb dX7_rule_0 rfl (lv_at hl 1 rfl) ?_
  refine lv_iconst (v := 4) hx hb dX7_rule_1 (by decide) ?_
  obtain ⟨k_1, hok⟩ := hok
  have hFc := wFr hS hA
  refine va_calli (va_runS (As := [.int x1, .int 4]) (rest := []) ⟨hx, hb, hml, hown, hts⟩ (c_X7_isBelow l H.size x1 4 k_1) (va_cwS 2 hts gX7_rule_X7_isBelow rfl rfl rfl (by decide +kernel) ⟨Nat.le_of_ble_eq_true rfl, Nat.le_of_ble_eq_true rfl⟩) ⟨fun a9 U g9 mk9 q9 => q9, fun U hU hW => ⟨rfl, congrArg Array.size hU⟩⟩ rfl rfl hl.1 rfl (lv_room (Nat.le_of_ble_eq_true rfl)) dX7_rule_2 ⟨Nat.zero_le _, Nat.zero_le _⟩) hS (fun q _ h => hFc q h) hFc (fun r u t H1 locs ht hvm hw hB hz1 hk1 hS => ?_)
  have hP := wKp hP hk1
  subst hw
  generalize H1 = H at hP hS ⊢
  refine lv_if_ne (tgt := 18) hx hb dX7_rule_5 (by decide) (fun c_2 => ?_) (fun c_2 => ?_)
  · have hok := okF hok c_2
    have hZ := rsF hZ c_2
    refine lv_aload_n hx hb dX7_rule_18 rfl (lv_at hl 0 rfl) ?_
    refine va_get (D := (dC, dI)) (ci := 6) (v := .ref (a 3)) (C := RX7) (T := TX7) (N := 8) hx hb hts iX7_rule_X7 hown hK hP 0 rfl rfl 2 (by decide) (hts (.fieldLink RX7 19 "RiskHouse" "rules" "LRiskHouse$Rules;") (by decide +kernel)) (fun _ h9 => h9) rfl dX7_rule_19 ?_
    refine va_get (D := (dC, dI)) (ci := 4) (v := .int (S.1 127)) (C := RX5) (T := TX5) (N := 8) hx hb hts iX7_rule_X5 hown hK hP 3 rfl rfl 7 (by decide) (hts (.fieldLink RX7 87 "RiskHouse$Rules" "size" "I") (by decide +kernel)) (fun _ h9 => h9) rfl dX7_rule_22 ?_
    refine lv_bipush (v := 12) hx hb dX7_rule_25 (by decide) ?_
    refine lv_icmp_ge (tgt := 41) hx hb dX7_rule_27 (by decide) (fun c_3 => ?_) (fun c_3 => ?_)
    · have hok := okT hok c_3
      have hZ := rsT hZ c_3
      exact w_X7_rule_41 C0 hK hA hex htr hnt Z S hok hZ _ _ hP hD hS _ (lv_sub hl [] rfl)
    · have hok := okF hok c_3
      have hZ := rsF hZ c_3
      refine lv_aload_n hx hb dX7_rule_30 rfl (lv_at hl 0 rfl) ?_
      refine va_get (D := (dC, dI)) (ci := 6) (v := .ref (a 11)) (C := RX7) (T := TX7) (N := 8) hx hb hts iX7_rule_X7 hown hK hP 0 rfl rfl 3 (by decide) (hts (.fieldLink RX7 26 "RiskHouse" "editions" "LRiskHouse$Editions;") (by decide +kernel)) (fun _ h9 => h9) rfl dX7_rule_31 ?_
      refine lv_iload_n hx hb dX7_rule_34 rfl (lv_at hl 1 rfl) ?_
      obtain ⟨k_4, hok⟩ := hok
      have hFc := wFw (w := cW cI cZ a S) hD hS hA
      refine va_calli (va_runV (As := [.int x1]) (rest := []) ⟨hx, hb, hml, hown, hts⟩ (c_X2_hasStarted l dC dI cI cZ a H.size S x1 k_4) (cwV 1 hts gX7_rule_X2_hasStarted rfl rfl rfl (by decide +kernel) ⟨Nat.le_of_ble_eq_true rfl, Nat.le_of_ble_eq_true rfl⟩) ⟨wBl, va_recv hK hP (ci := 1) (q0 := 11) rfl rfl, fun U hU hW => ⟨rfl, by rw [hU], by rw [hU]; exact hP, va_K.moved hW.alike hK, hD.weaken (fun _ _ _ _ => trivial)⟩⟩ rfl rfl hl.1 rfl (lv_room (Nat.le_of_ble_eq_true rfl)) dX7_rule_35 ⟨Nat.zero_le _, Nat.zero_le _⟩) hS (fun q _ h => hFc q h) hFc (fun r u t H1 locs ht hvm hw hB hz1 hk1 hS => ?_)
      obtain ⟨hP, hD⟩ := wJn ht hFc hB.1 hB.2.2
      have e1 : r = (rs_X2_hasStarted S x1).1 := congrArg Prod.fst hw
      have e2 : u = (rs_X2_hasStarted S x1).2 := congrArg Prod.snd hw
      rw [e1]
      rw [e2] at hP hD
      generalize H1 = H at hP hS ⊢
      exact w_X7_rule_38 C0 hK hA hex htr hnt Z (rs_X2_hasStarted S x1).2 x1 x2 ((rs_X2_hasStarted S x1).1) hok hZ _ _ hP hD hS _ (lv_sub hl [0, 1, 2] rfl)
  · have hok := okT hok c_2
    have hZ := rsT hZ c_2
    obtain ⟨sa, hstr⟩ := hex.2.2.1 (82, "no such edition") (by decide)
    refine vx_throwS (names := ["java/lang/RuntimeException", "java/lang/Exception"]) hx hb htr hown (by decide +kernel) (by decide +kernel) (hts (.classLink RX7 80 "java/lang/IllegalArgumentException") (by decide +kernel)) (hts (.initialized "java/lang/IllegalArgumentException") (by decide +kernel)) hstr (vx_hat (B := .castable "java/lang/IllegalArgumentException" "java/lang/IllegalArgumentException" :: exD.map Cond.declares) (fun w h => hts w (xm_X7_rule_84 w h)) (by decide +kernel) (vx_c (va_Nw.use rfl (hex.2.2.2.1 "java/lang/IllegalArgumentException" (by decide))) (exE.dc hex))) (by decide +kernel) hex.1 hex.2.1 hS (hl.1.trans hml.symm) dX7_rule_8 dX7_rule_11 dX7_rule_12 dX7_rule_14 dX7_rule_17 (fun x h => (hnt x h).elim) (Nat.le_of_ble_eq_true rfl) (Nat.le_of_ble_eq_true rfl) (Nat.le_of_ble_eq_true rfl) (Nat.le_of_ble_eq_true rfl) hlocks (fun t hvm hz hk9 => ⟨S, trivial, ⟨by decide, hZ, hP.kept (fun k q hq => hk9 q.1 (hP k q hq).lt), va_K.moved hvm hK, hD⟩, Nat.le_trans hS.1 hz, fun q h1 h2 => (hk9 q (Nat.lt_of_lt_of_le h1 hS.1)).trans (hS.2.1 q h1 h2)⟩) hS.2.2 (Nat.le_of_ble_eq_true rfl) (Nat.le_of_ble_eq_true rfl)
set_option maxHeartbeats 4000000 in
set_option maxRecDepth 100000 in
theorem c_X7_rule (l : Launch) (htr : l.stackTraces = false) (dC : Nat → ClassId) (dI : Nat → Nat → Nat) (cI cZ : ClassId) (a : Nat → Nat) (sz : Nat) (S : St) (x1 : Int32) (x2 : Int32) (hok : ok_X7_rule S x1 x2) : vx_Met l yX7_rule wsX7_rule rm_X7_rule (va_Pc [.ref (a 0), .int x1, .int x2] (fun U => cWP dC dI cI cZ a sz S U ∧ exE (va_A (cW cI cZ a S) sz) U)) (va_Qi (fun (r : Int32) (u : St) => (0, r, u) = rs_X7_rule S x1 x2) (cWB dC dI cI cZ a (va_A (cW cI cZ a S) sz)) (va_A (cW cI cZ a S) sz)) (exX dC dI cI cZ a (va_A (cW cI cZ a S) sz) (rs_X7_rule S x1 x2)) 1 6 (va_A (cW cI cZ a S) sz) := by
  refine vx_ofW (cc := cX7_rule) (maxL := 3) (ret := (some .int)) (by decide) rfl ?_
  intro p e s m args below meth c s₁ B hml hnt hv
  obtain ⟨rfl, ⟨hsz, hP, hK, hD0⟩, hex⟩ := hv
  subst hsz
  have hD := hD0.self (sz := s.heap.size)
  have hl := lv_entry ([.ref (a 0), .int x1, .int x2]) (n := 3) (Nat.le_of_ble_eq_true rfl)
  rw [lg_entry_eq]
  generalize (lg_sl ([.ref (a 0), .int x1, .int x2]) ++ List.replicate (3 - (lg_sl ([.ref (a 0), .int x1, .int x2])).length) Slot.unset).toArray = ls at hl ⊢
  have hl : lv_has ls 3 [(0, .ref (a 0)), (1, .int x1), (2, .int x2)] := hl
  exact w_X7_rule ⟨B.exec, B.bytes, B.returns, hml, findClass_of_methodNamed B.named, atoms_spec (ws := wsX7_rule) B.pre, B.notSynchronized⟩ hK (fun q h => Or.inr h) hex htr hnt _ S x1 x2 hok rfl _ _ hP hD va_S.rf ls hl
abbrev rm_X7_operation : Room := { frames := 6, cells := 1, slots := 6, locals := 82 }
theorem xm_X7_operation_84 : ∀ w ∈ (vx_atS RX7 84 "java/lang/IllegalArgumentException" ["java/lang/RuntimeException", "java/lang/Exception"]).filter goodWord, w ∈ wsX7_operation := by decide +kernel
theorem xm_X7_operation_99 : ∀ w ∈ (vx_atS RX7 99 "java/lang/IllegalStateException" ["java/lang/RuntimeException", "java/lang/Exception"]).filter goodWord, w ∈ wsX7_operation := by decide +kernel
theorem iX7_operation_X5 : ∀ w ∈ wsX50, w ∈ wsX7_operation := by decide +kernel
theorem iX7_operation_X7 : ∀ w ∈ wsX70, w ∈ wsX7_operation := by decide +kernel
def rs_X7_operation_22 (S : St)  : Int32 × Int32 × St := (1, 0, S)
def ok_X7_operation_22 (S : St)  : Prop := True
set_option maxHeartbeats 4000000 in
set_option maxRecDepth 100000 in
theorem w_X7_operation_22 {p : Program} {l : Launch} {e : Env} {s : State} {m : MethodId} {args : Array Value} {below : List Frame} {meth : Method} {c : Code} {dC : Nat → ClassId} {dI : Nat → Nat → Nat} {cI cZ : ClassId} {a : Nat → Nat} {A : Nat → Prop} (C0 : Cx p s m args meth c RX7 cX7_operation (some .int) 4 wsX7_operation) (hK : va_K (dC, dI) vwCl (tI cI cZ) s) (hA : ∀ q, s.heap.size ≤ q → A q) (hex : exE A s) (htr : l.stackTraces = false) (hnt : ∀ x ∈ c.exceptionTable.toList, False) (Z : Int32 × Int32 × St) (S : St)  (hok : ok_X7_operation_22 S) (hZ : rs_X7_operation_22 S = Z) (H : Heap) (locs : List Loc) (hP : va_P (dC, dI) vwCl (cW cI cZ a S) H) (hD : va_D A (cW cI cZ a S)) (hS : va_S A s.heap H locs) (ls : Array Slot) (hl : lv_has ls 4 []) : W p l e rm_X7_operation s m args below meth c H locs 0 0 (vx_MQ below (va_Qi (fun (r : Int32) (u : St) => (0, r, u) = Z) (cWB dC dI cI cZ a A) A) (exX dC dI cI cZ a A Z) args s 1 6 A) (F0 m 22 ls []) := by
  obtain ⟨hx, hb, hr, hml, hown, hts, hlocks⟩ := id C0
  rw [ok_X7_operation_22] at hok
  rw [rs_X7_operation_22] at hZ
  obtain ⟨sa, hstr⟩ := hex.2.2.1 (109, "no such rule, code or number") (by decide)
  refine vx_throwS (names := ["java/lang/RuntimeException", "java/lang/Exception"]) hx hb htr hown (by decide +kernel) (by decide +kernel) (hts (.classLink RX7 80 "java/lang/IllegalArgumentException") (by decide +kernel)) (hts (.initialized "java/lang/IllegalArgumentException") (by decide +kernel)) hstr (vx_hat (B := .castable "java/lang/IllegalArgumentException" "java/lang/IllegalArgumentException" :: exD.map Cond.declares) (fun w h => hts w (xm_X7_operation_84 w h)) (by decide +kernel) (vx_c (va_Nw.use rfl (hex.2.2.2.1 "java/lang/IllegalArgumentException" (by decide))) (exE.dc hex))) (by decide +kernel) hex.1 hex.2.1 hS (hl.1.trans hml.symm) dX7_operation_22 dX7_operation_25 dX7_operation_26 dX7_operation_28 dX7_operation_31 (fun x h => (hnt x h).elim) (Nat.le_of_ble_eq_true rfl) (Nat.le_of_ble_eq_true rfl) (Nat.le_of_ble_eq_true rfl) (Nat.le_of_ble_eq_true rfl) hlocks (fun t hvm hz hk9 => ⟨S, trivial, ⟨by decide, hZ, hP.kept (fun k q hq => hk9 q.1 (hP k q hq).lt), va_K.moved hvm hK, hD⟩, Nat.le_trans hS.1 hz, fun q h1 h2 => (hk9 q (Nat.lt_of_lt_of_le h1 hS.1)).trans (hS.2.1 q h1 h2)⟩) hS.2.2 (Nat.le_of_ble_eq_true rfl) (Nat.le_of_ble_eq_true rfl)
def rs_X7_operation_65 (S : St)  : Int32 × Int32 × St := (2, 0, S)
def ok_X7_operation_65 (S : St)  : Prop := True
set_option maxHeartbeats 4000000 in
set_option maxRecDepth 100000 in
theorem w_X7_operation_65 {p : Program} {l : Launch} {e : Env} {s : State} {m : MethodId} {args : Array Value} {below : List Frame} {meth : Method} {c : Code} {dC : Nat → ClassId} {dI : Nat → Nat → Nat} {cI cZ : ClassId} {a : Nat → Nat} {A : Nat → Prop} (C0 : Cx p s m args meth c RX7 cX7_operation (some .int) 4 wsX7_operation) (hK : va_K (dC, dI) vwCl (tI cI cZ) s) (hA : ∀ q, s.heap.size ≤ q → A q) (hex : exE A s) (htr : l.stackTraces = false) (hnt : ∀ x ∈ c.exceptionTable.toList, False) (Z : Int32 × Int32 × St) (S : St)  (hok : ok_X7_operation_65 S) (hZ : rs_X7_operation_65 S = Z) (H : Heap) (locs : List Loc) (hP : va_P (dC, dI) vwCl (cW cI cZ a S) H) (hD : va_D A (cW cI cZ a S)) (hS : va_S A s.heap H locs) (ls : Array Slot) (hl : lv_has ls 4 []) : W p l e rm_X7_operation s m args below meth c H locs 0 0 (vx_MQ below (va_Qi (fun (r : Int32) (u : St) => (0, r, u) = Z) (cWB dC dI cI cZ a A) A) (exX dC dI cI cZ a A Z) args s 1 6 A) (F0 m 65 ls []) := by
  obtain ⟨hx, hb, hr, hml, hown, hts, hlocks⟩ := id C0
  rw [ok_X7_operation_65] at hok
  rw [rs_X7_operation_65] at hZ
  obtain ⟨sa, hstr⟩ := hex.2.2.1 (117, "no more operations, or the edition has started") (by decide)
  refine vx_throwS (names := ["java/lang/RuntimeException", "java/lang/Exception"]) hx hb htr hown (by decide +kernel) (by decide +kernel) (hts (.classLink RX7 95 "java/lang/IllegalStateException") (by decide +kernel)) (hts (.initialized "java/lang/IllegalStateException") (by decide +kernel)) hstr (vx_hat (B := .castable "java/lang/IllegalStateException" "java/lang/IllegalStateException" :: exD.map Cond.declares) (fun w h => hts w (xm_X7_operation_99 w h)) (by decide +kernel) (vx_c (va_Nw.use rfl (hex.2.2.2.1 "java/lang/IllegalStateException" (by decide))) (exE.dc hex))) (by decide +kernel) hex.1 hex.2.1 hS (hl.1.trans hml.symm) dX7_operation_65 dX7_operation_68 dX7_operation_69 dX7_operation_71 dX7_operation_74 (fun x h => (hnt x h).elim) (Nat.le_of_ble_eq_true rfl) (Nat.le_of_ble_eq_true rfl) (Nat.le_of_ble_eq_true rfl) (Nat.le_of_ble_eq_true rfl) hlocks (fun t hvm hz hk9 => ⟨S, trivial, ⟨by decide, hZ, hP.kept (fun k q hq => hk9 q.1 (hP k q hq).lt), va_K.moved hvm hK, hD⟩, Nat.le_trans hS.1 hz, fun q h1 h2 => (hk9 q (Nat.lt_of_lt_of_le h1 hS.1)).trans (hS.2.1 q h1 h2)⟩) hS.2.2 (Nat.le_of_ble_eq_true rfl) (Nat.le_of_ble_eq_true rfl)
def rs_X7_operation_85 (S : St) (z0 : Int32) : Int32 × Int32 × St := (0, z0, S)
def ok_X7_operation_85 (S : St) (z0 : Int32) : Prop := True
set_option maxHeartbeats 4000000 in
set_option maxRecDepth 100000 in
theorem w_X7_operation_85 {p : Program} {l : Launch} {e : Env} {s : State} {m : MethodId} {args : Array Value} {below : List Frame} {meth : Method} {c : Code} {dC : Nat → ClassId} {dI : Nat → Nat → Nat} {cI cZ : ClassId} {a : Nat → Nat} {A : Nat → Prop} (C0 : Cx p s m args meth c RX7 cX7_operation (some .int) 4 wsX7_operation) (hK : va_K (dC, dI) vwCl (tI cI cZ) s) (hA : ∀ q, s.heap.size ≤ q → A q) (hex : exE A s) (htr : l.stackTraces = false) (hnt : ∀ x ∈ c.exceptionTable.toList, False) (Z : Int32 × Int32 × St) (S : St) (z0 : Int32) (hok : ok_X7_operation_85 S z0) (hZ : rs_X7_operation_85 S z0 = Z) (H : Heap) (locs : List Loc) (hP : va_P (dC, dI) vwCl (cW cI cZ a S) H) (hD : va_D A (cW cI cZ a S)) (hS : va_S A s.heap H locs) (ls : Array Slot) (hl : lv_has ls 4 []) : W p l e rm_X7_operation s m args below meth c H locs 0 0 (vx_MQ below (va_Qi (fun (r : Int32) (u : St) => (0, r, u) = Z) (cWB dC dI cI cZ a A) A) (exX dC dI cI cZ a A Z) args s 1 6 A) (F0 m 85 ls [.int z0]) := by
  obtain ⟨hx, hb, hr, hml, hown, hts, hlocks⟩ := id C0
  rw [ok_X7_operation_85] at hok
  rw [rs_X7_operation_85] at hZ
  refine vx_ret (W.widen (k := 1) (n := 6) (Nat.le_of_ble_eq_true rfl) (Nat.le_of_ble_eq_true rfl) ?_)
  exact W.iret (v := z0) hx hb hr (fun t ht hW => ⟨⟨z0, S, rfl, hZ, by rw [ht]; exact hP, va_K.moved hW.alike hK, hD⟩, hS.F ht⟩) hS.2.2 dX7_operation_85 hlocks
def rs_X7_operation_62 (S : St) (x1 : Int32) (x2 : Int32) (x3 : Int32) (z0 : Int32) : Int32 × Int32 × St := (if z0 = 0 then (rs_X7_operation_85 (rs_X5_append S x1 x2 x3).2 ((rs_X5_append S x1 x2 x3).1)) else (rs_X7_operation_65 S))
def ok_X7_operation_62 (S : St) (x1 : Int32) (x2 : Int32) (x3 : Int32) (z0 : Int32) : Prop := (if z0 = 0 then ((ok_X5_append S x1 x2 x3) ∧ ok_X7_operation_85 (rs_X5_append S x1 x2 x3).2 ((rs_X5_append S x1 x2 x3).1)) else ok_X7_operation_65 S)
set_option maxHeartbeats 4000000 in
set_option maxRecDepth 100000 in
theorem w_X7_operation_62 {p : Program} {l : Launch} {e : Env} {s : State} {m : MethodId} {args : Array Value} {below : List Frame} {meth : Method} {c : Code} {dC : Nat → ClassId} {dI : Nat → Nat → Nat} {cI cZ : ClassId} {a : Nat → Nat} {A : Nat → Prop} (C0 : Cx p s m args meth c RX7 cX7_operation (some .int) 4 wsX7_operation) (hK : va_K (dC, dI) vwCl (tI cI cZ) s) (hA : ∀ q, s.heap.size ≤ q → A q) (hex : exE A s) (htr : l.stackTraces = false) (hnt : ∀ x ∈ c.exceptionTable.toList, False) (Z : Int32 × Int32 × St) (S : St) (x1 : Int32) (x2 : Int32) (x3 : Int32) (z0 : Int32) (hok : ok_X7_operation_62 S x1 x2 x3 z0) (hZ : rs_X7_operation_62 S x1 x2 x3 z0 = Z) (H : Heap) (locs : List Loc) (hP : va_P (dC, dI) vwCl (cW cI cZ a S) H) (hD : va_D A (cW cI cZ a S)) (hS : va_S A s.heap H locs) (ls : Array Slot) (hl : lv_has ls 4 [(0, .ref (a 0)), (1, .int x1), (2, .int x2), (3, .int x3)]) : W p l e rm_X7_operation s m args below meth c H locs 0 0 (vx_MQ below (va_Qi (fun (r : Int32) (u : St) => (0, r, u) = Z) (cWB dC dI cI cZ a A) A) (exX dC dI cI cZ a A Z) args s 1 6 A) (F0 m 62 ls [.int z0]) := by
  obtain ⟨hx, hb, hr, hml, hown, hts, hlocks⟩ := id C0
  rw [ok_X7_operation_62] at hok
  rw [rs_X7_operation_62] at hZ
  refine lv_if_eq (tgt := 75) hx hb dX7_operation_62 (by decide) (fun c_1 => ?_) (fun c_1 => ?_)
  · have hok := okT hok c_1
    have hZ := rsT hZ c_1
    refine lv_aload_n hx hb dX7_operation_75 rfl (lv_at hl 0 rfl) ?_
    refine va_get (D := (dC, dI)) (ci := 6) (v := .ref (a 3)) (C := RX7) (T := TX7) (N := 8) hx hb hts iX7_operation_X7 hown hK hP 0 rfl rfl 2 (by decide) (hts (.fieldLink RX7 19 "RiskHouse" "rules" "LRiskHouse$Rules;") (by decide +kernel)) (fun _ h9 => h9) rfl dX7_operation_76 ?_
    refine lv_iload_n hx hb dX7_operation_79 rfl (lv_at hl 1 rfl) ?_
    refine lv_iload_n hx hb dX7_operation_80 rfl (lv_at hl 2 rfl) ?_
    refine lv_iload_n hx hb dX7_operation_81 rfl (lv_at hl 3 rfl) ?_
    obtain ⟨k_2, hok⟩ := hok
    have hFc := wFw (w := cW cI cZ a S) hD hS hA
    refine va_calli (va_runV (As := [.int x1, .int x2, .int x3]) (rest := []) ⟨hx, hb, hml, hown, hts⟩ (c_X5_append l dC dI cI cZ a H.size S x1 x2 x3 k_2) (cwV 3 hts gX7_operation_X5_append rfl rfl rfl (by decide +kernel) ⟨Nat.le_of_ble_eq_true rfl, Nat.le_of_ble_eq_true rfl⟩) ⟨wBl, va_recv hK hP (ci := 4) (q0 := 3) rfl rfl, fun U hU hW => ⟨rfl, by rw [hU], by rw [hU]; exact hP, va_K.moved hW.alike hK, hD.weaken (fun _ _ _ _ => trivial)⟩⟩ rfl rfl hl.1 rfl (lv_room (Nat.le_of_ble_eq_true rfl)) dX7_operation_82 ⟨Nat.zero_le _, Nat.zero_le _⟩) hS (fun q _ h => hFc q h) hFc (fun r u t H1 locs ht hvm hw hB hz1 hk1 hS => ?_)
    obtain ⟨hP, hD⟩ := wJn ht hFc hB.1 hB.2.2
    have e1 : r = (rs_X5_append S x1 x2 x3).1 := congrArg Prod.fst hw
    have e2 : u = (rs_X5_append S x1 x2 x3).2 := congrArg Prod.snd hw
    rw [e1]
    rw [e2] at hP hD
    generalize H1 = H at hP hS ⊢
    exact w_X7_operation_85 C0 hK hA hex htr hnt Z (rs_X5_append S x1 x2 x3).2 ((rs_X5_append S x1 x2 x3).1) hok hZ _ _ hP hD hS _ (lv_sub hl [] rfl)
  · have hok := okF hok c_1
    have hZ := rsF hZ c_1
    exact w_X7_operation_65 C0 hK hA hex htr hnt Z S hok hZ _ _ hP hD hS _ (lv_sub hl [] rfl)
def rs_X7_operation (S : St) (x1 : Int32) (x2 : Int32) (x3 : Int32) : Int32 × Int32 × St := (if (rs_X7_isBelow x1 (S.1 127)) = 0 then (rs_X7_operation_22 S) else (if (rs_X7_canBe x2 x3) = 0 then (rs_X7_operation_22 S) else (if 16 ≤ ((S.2 6) x1.toNatClampNeg) then (rs_X7_operation_65 S) else (rs_X7_operation_62 (rs_X2_hasStarted S ((S.2 4) x1.toNatClampNeg)).2 x1 x2 x3 ((rs_X2_hasStarted S ((S.2 4) x1.toNatClampNeg)).1)))))
def ok_X7_operation (S : St) (x1 : Int32) (x2 : Int32) (x3 : Int32) : Prop := ((ok_X7_isBelow x1 (S.1 127)) ∧ (if (rs_X7_isBelow x1 (S.1 127)) = 0 then ok_X7_operation_22 S else ((ok_X7_canBe x2 x3) ∧ (if (rs_X7_canBe x2 x3) = 0 then ok_X7_operation_22 S else ((vp_in x1 12) ∧ (if 16 ≤ ((S.2 6) x1.toNatClampNeg) then ok_X7_operation_65 S else ((vp_in x1 12) ∧ ((ok_X2_hasStarted S ((S.2 4) x1.toNatClampNeg)) ∧ ok_X7_operation_62 (rs_X2_hasStarted S ((S.2 4) x1.toNatClampNeg)).2 x1 x2 x3 ((rs_X2_hasStarted S ((S.2 4) x1.toNatClampNeg)).1)))))))))
set_option maxHeartbeats 4000000 in
set_option maxRecDepth 100000 in
theorem w_X7_operation {p : Program} {l : Launch} {e : Env} {s : State} {m : MethodId} {args : Array Value} {below : List Frame} {meth : Method} {c : Code} {dC : Nat → ClassId} {dI : Nat → Nat → Nat} {cI cZ : ClassId} {a : Nat → Nat} {A : Nat → Prop} (C0 : Cx p s m args meth c RX7 cX7_operation (some .int) 4 wsX7_operation) (hK : va_K (dC, dI) vwCl (tI cI cZ) s) (hA : ∀ q, s.heap.size ≤ q → A q) (hex : exE A s) (htr : l.stackTraces = false) (hnt : ∀ x ∈ c.exceptionTable.toList, False) (Z : Int32 × Int32 × St) (S : St) (x1 : Int32) (x2 : Int32) (x3 : Int32) (hok : ok_X7_operation S x1 x2 x3) (hZ : rs_X7_operation S x1 x2 x3 = Z) (H : Heap) (locs : List Loc) (hP : va_P (dC, dI) vwCl (cW cI cZ a S) H) (hD : va_D A (cW cI cZ a S)) (hS : va_S A s.heap H locs) (ls : Array Slot) (hl : lv_has ls 4 [(0, .ref (a 0)), (1, .int x1), (2, .int x2), (3, .int x3)]) : W p l e rm_X7_operation s m args below meth c H locs 0 0 (vx_MQ below (va_Qi (fun (r : Int32) (u : St) => (0, r, u) = Z) (cWB dC dI cI cZ a A) A) (exX dC dI cI cZ a A Z) args s 1 6 A) (F0 m 0 ls []) := by
  obtain ⟨hx, hb, hr, hml, hown, hts, hlocks⟩ := id C0
  rw [ok_X7_operation] at hok
  rw [rs_X7_operation] at hZ
  refine lv_iload_n hx hb dX7_operation_0 rfl (lv_at hl 1 rfl) ?_
  refine lv_aload_n hx hb dX7_operation_1 rfl (lv_at hl 0 rfl) ?_
  refine va_get (D := (dC, dI)) (ci := 6) (v := .ref (a 3)) (C := RX7) (T := TX7) (N := 8) hx hb hts iX7_operation_X7 hown hK hP 0 rfl rfl 2 (by decide) (hts (.fieldLink RX7 19 "RiskHouse" "rules" "LRiskHouse$Rules;") (by decide +kernel)) (fun _ h9 => h9) rfl dX7_operation_2 ?_
  refine va_get (D := (dC, dI)) (ci := 4) (v := .int (S.1 127)) (C := RX5) (T := TX5) (N := 8) hx hb hts iX7_operation_X5 hown hK hP 3 rfl rfl 7 (by decide) (hts (.fieldLink RX7 87 "RiskHouse$Rules" "size" "I") (by decide +kernel)) (fun _ h9 => h9) rfl dX7_operation_5 ?_
  obtain ⟨k_1, hok⟩ := hok
  have hFc := wFr hS hA
  refine va_calli (va_runS (As := [.int x1, .int (S.1 127)]) (rest := []) ⟨hx, hb, hml, hown, hts⟩ (c_X7_isBelow l H.size x1 (S.1 127) k_1) (va_cwS 2 hts gX7_operation_X7_isBelow rfl rfl rfl (by decide +kernel) ⟨Nat.le_of_ble_eq_true rfl, Nat.le_of_ble_eq_true rfl⟩) ⟨fun a9 U g9 mk9 q9 => q9, fun U hU hW => ⟨rfl, congrArg Array.size hU⟩⟩ rfl rfl hl.1 rfl (lv_room (Nat.le_of_ble_eq_true rfl)) dX7_operation_8 ⟨Nat.zero_le _, Nat.zero_le _⟩) hS (fun q _ h => hFc q h) hFc (fun r u t H1 locs ht hvm hw hB hz1 hk1 hS => ?_)
  have hP := wKp hP hk1
  subst hw
  generalize H1 = H at hP hS ⊢
  refine lv_if_eq (tgt := 22) hx hb dX7_operation_11 (by decide) (fun c_2 => ?_) (fun c_2 => ?_)
  · have hok := okT hok c_2
    have hZ := rsT hZ c_2
    exact w_X7_operation_22 C0 hK hA hex htr hnt Z S hok hZ _ _ hP hD hS _ (lv_sub hl [] rfl)
  · have hok := okF hok c_2
    have hZ := rsF hZ c_2
    refine lv_iload_n hx hb dX7_operation_14 rfl (lv_at hl 2 rfl) ?_
    refine lv_iload_n hx hb dX7_operation_15 rfl (lv_at hl 3 rfl) ?_
    obtain ⟨k_3, hok⟩ := hok
    have hFc := wFr hS hA
    refine va_calli (va_runS (As := [.int x2, .int x3]) (rest := []) ⟨hx, hb, hml, hown, hts⟩ (c_X7_canBe l H.size x2 x3 k_3) (va_cwS 2 hts gX7_operation_X7_canBe rfl rfl rfl (by decide +kernel) ⟨Nat.le_of_ble_eq_true rfl, Nat.le_of_ble_eq_true rfl⟩) ⟨fun a9 U g9 mk9 q9 => q9, fun U hU hW => ⟨rfl, congrArg Array.size hU⟩⟩ rfl rfl hl.1 rfl (lv_room (Nat.le_of_ble_eq_true rfl)) dX7_operation_16 ⟨Nat.zero_le _, Nat.zero_le _⟩) hS (fun q _ h => hFc q h) hFc (fun r u t H1 locs ht hvm hw hB hz1 hk1 hS => ?_)
    have hP := wKp hP hk1
    subst hw
    generalize H1 = H at hP hS ⊢
    refine lv_if_ne (tgt := 32) hx hb dX7_operation_19 (by decide) (fun c_4 => ?_) (fun c_4 => ?_)
    · have hok := okF hok c_4
      have hZ := rsF hZ c_4
      refine lv_aload_n hx hb dX7_operation_32 rfl (lv_at hl 0 rfl) ?_
      refine va_get (D := (dC, dI)) (ci := 6) (v := .ref (a 3)) (C := RX7) (T := TX7) (N := 8) hx hb hts iX7_operation_X7 hown hK hP 0 rfl rfl 2 (by decide) (hts (.fieldLink RX7 19 "RiskHouse" "rules" "LRiskHouse$Rules;") (by decide +kernel)) (fun _ h9 => h9) rfl dX7_operation_33 ?_
      refine va_get (D := (dC, dI)) (ci := 4) (v := .ref (a 6)) (C := RX5) (T := TX5) (N := 8) hx hb hts iX7_operation_X5 hown hK hP 3 rfl rfl 2 (by decide) (hts (.fieldLink RX7 111 "RiskHouse$Rules" "length" "[I") (by decide +kernel)) (fun _ h9 => h9) rfl dX7_operation_36 ?_
      refine lv_iload_n hx hb dX7_operation_39 rfl (lv_at hl 1 rfl) ?_
      obtain ⟨h_5, hok⟩ := hok
      refine va_iald (f := (S.2 6)) hx hb hK hP 6 0 rfl rfl h_5 dX7_operation_40 ?_
      refine lv_bipush (v := 16) hx hb dX7_operation_41 (by decide) ?_
      refine lv_icmp_ge (tgt := 65) hx hb dX7_operation_43 (by decide) (fun c_6 => ?_) (fun c_6 => ?_)
      · have hok := okT hok c_6
        have hZ := rsT hZ c_6
        exact w_X7_operation_65 C0 hK hA hex htr hnt Z S hok hZ _ _ hP hD hS _ (lv_sub hl [] rfl)
      · have hok := okF hok c_6
        have hZ := rsF hZ c_6
        refine lv_aload_n hx hb dX7_operation_46 rfl (lv_at hl 0 rfl) ?_
        refine va_get (D := (dC, dI)) (ci := 6) (v := .ref (a 11)) (C := RX7) (T := TX7) (N := 8) hx hb hts iX7_operation_X7 hown hK hP 0 rfl rfl 3 (by decide) (hts (.fieldLink RX7 26 "RiskHouse" "editions" "LRiskHouse$Editions;") (by decide +kernel)) (fun _ h9 => h9) rfl dX7_operation_47 ?_
        refine lv_aload_n hx hb dX7_operation_50 rfl (lv_at hl 0 rfl) ?_
        refine va_get (D := (dC, dI)) (ci := 6) (v := .ref (a 3)) (C := RX7) (T := TX7) (N := 8) hx hb hts iX7_operation_X7 hown hK hP 0 rfl rfl 2 (by decide) (hts (.fieldLink RX7 19 "RiskHouse" "rules" "LRiskHouse$Rules;") (by decide +kernel)) (fun _ h9 => h9) rfl dX7_operation_51 ?_
        refine va_get (D := (dC, dI)) (ci := 4) (v := .ref (a 4)) (C := RX5) (T := TX5) (N := 8) hx hb hts iX7_operation_X5 hown hK hP 3 rfl rfl 0 (by decide) (hts (.fieldLink RX7 114 "RiskHouse$Rules" "edition" "[I") (by decide +kernel)) (fun _ h9 => h9) rfl dX7_operation_54 ?_
        refine lv_iload_n hx hb dX7_operation_57 rfl (lv_at hl 1 rfl) ?_
        obtain ⟨h_7, hok⟩ := hok
        refine va_iald (f := (S.2 4)) hx hb hK hP 4 0 rfl rfl h_7 dX7_operation_58 ?_
        obtain ⟨k_8, hok⟩ := hok
        have hFc := wFw (w := cW cI cZ a S) hD hS hA
        refine va_calli (va_runV (As := [.int ((S.2 4) x1.toNatClampNeg)]) (rest := []) ⟨hx, hb, hml, hown, hts⟩ (c_X2_hasStarted l dC dI cI cZ a H.size S ((S.2 4) x1.toNatClampNeg) k_8) (cwV 1 hts gX7_operation_X2_hasStarted rfl rfl rfl (by decide +kernel) ⟨Nat.le_of_ble_eq_true rfl, Nat.le_of_ble_eq_true rfl⟩) ⟨wBl, va_recv hK hP (ci := 1) (q0 := 11) rfl rfl, fun U hU hW => ⟨rfl, by rw [hU], by rw [hU]; exact hP, va_K.moved hW.alike hK, hD.weaken (fun _ _ _ _ => trivial)⟩⟩ rfl rfl hl.1 rfl (lv_room (Nat.le_of_ble_eq_true rfl)) dX7_operation_59 ⟨Nat.zero_le _, Nat.zero_le _⟩) hS (fun q _ h => hFc q h) hFc (fun r u t H1 locs ht hvm hw hB hz1 hk1 hS => ?_)
        obtain ⟨hP, hD⟩ := wJn ht hFc hB.1 hB.2.2
        have e1 : r = (rs_X2_hasStarted S ((S.2 4) x1.toNatClampNeg)).1 := congrArg Prod.fst hw
        have e2 : u = (rs_X2_hasStarted S ((S.2 4) x1.toNatClampNeg)).2 := congrArg Prod.snd hw
        rw [e1]
        rw [e2] at hP hD
        generalize H1 = H at hP hS ⊢
        exact w_X7_operation_62 C0 hK hA hex htr hnt Z (rs_X2_hasStarted S ((S.2 4) x1.toNatClampNeg)).2 x1 x2 x3 ((rs_X2_hasStarted S ((S.2 4) x1.toNatClampNeg)).1) hok hZ _ _ hP hD hS _ (lv_sub hl [0, 1, 2, 3] rfl)
    · have hok := okT hok c_4
      have hZ := rsT hZ c_4
      exact w_X7_operation_22 C0 hK hA hex htr hnt Z S hok hZ _ _ hP hD hS _ (lv_sub hl [] rfl)
set_option maxHeartbeats 4000000 in
set_option maxRecDepth 100000 in
theorem c_X7_operation (l : Launch) (htr : l.stackTraces = false) (dC : Nat → ClassId) (dI : Nat → Nat → Nat) (cI cZ : ClassId) (a : Nat → Nat) (sz : Nat) (S : St) (x1 : Int32) (x2 : Int32) (x3 : Int32) (hok : ok_X7_operation S x1 x2 x3) : vx_Met l yX7_operation wsX7_operation rm_X7_operation (va_Pc [.ref (a 0), .int x1, .int x2, .int x3] (fun U => cWP dC dI cI cZ a sz S U ∧ exE (va_A (cW cI cZ a S) sz) U)) (va_Qi (fun (r : Int32) (u : St) => (0, r, u) = rs_X7_operation S x1 x2 x3) (cWB dC dI cI cZ a (va_A (cW cI cZ a S) sz)) (va_A (cW cI cZ a S) sz)) (exX dC dI cI cZ a (va_A (cW cI cZ a S) sz) (rs_X7_operation S x1 x2 x3)) 1 6 (va_A (cW cI cZ a S) sz) := by
  refine vx_ofW (cc := cX7_operation) (maxL := 4) (ret := (some .int)) (by decide) rfl ?_
  intro p e s m args below meth c s₁ B hml hnt hv
  obtain ⟨rfl, ⟨hsz, hP, hK, hD0⟩, hex⟩ := hv
  subst hsz
  have hD := hD0.self (sz := s.heap.size)
  have hl := lv_entry ([.ref (a 0), .int x1, .int x2, .int x3]) (n := 4) (Nat.le_of_ble_eq_true rfl)
  rw [lg_entry_eq]
  generalize (lg_sl ([.ref (a 0), .int x1, .int x2, .int x3]) ++ List.replicate (4 - (lg_sl ([.ref (a 0), .int x1, .int x2, .int x3])).length) Slot.unset).toArray = ls at hl ⊢
  have hl : lv_has ls 4 [(0, .ref (a 0)), (1, .int x1), (2, .int x2), (3, .int x3)] := hl
  exact w_X7_operation ⟨B.exec, B.bytes, B.returns, hml, findClass_of_methodNamed B.named, atoms_spec (ws := wsX7_operation) B.pre, B.notSynchronized⟩ hK (fun q h => Or.inr h) hex htr hnt _ S x1 x2 x3 hok rfl _ _ hP hD va_S.rf ls hl
abbrev rm_X7_ask : Room := { frames := 6, cells := 1, slots := 6, locals := 142 }
theorem xm_X7_ask_84 : ∀ w ∈ (vx_atS RX7 84 "java/lang/IllegalArgumentException" ["java/lang/RuntimeException", "java/lang/Exception"]).filter goodWord, w ∈ wsX7_ask := by decide +kernel
theorem xm_X7_ask_99 : ∀ w ∈ (vx_atS RX7 99 "java/lang/IllegalStateException" ["java/lang/RuntimeException", "java/lang/Exception"]).filter goodWord, w ∈ wsX7_ask := by decide +kernel
theorem iX7_ask_X0 : ∀ w ∈ wsX00, w ∈ wsX7_ask := by decide +kernel
theorem iX7_ask_X7 : ∀ w ∈ wsX70, w ∈ wsX7_ask := by decide +kernel
def rs_X7_ask_62 (k : St → Int32 → Int32 → Int32 × Int32 × St) (S : St) (x2 : Int32) (x3 : Int32) : Int32 × Int32 × St := (k S x2 (x3 + 1))
def ok_X7_ask_62 (kk : St → Int32 → Int32 → Prop) (S : St) (x2 : Int32) (x3 : Int32) : Prop := kk S x2 (x3 + 1)
set_option maxHeartbeats 4000000 in
set_option maxRecDepth 100000 in
theorem w_X7_ask_62 {p : Program} {l : Launch} {e : Env} {s : State} {m : MethodId} {args : Array Value} {below : List Frame} {meth : Method} {c : Code} {dC : Nat → ClassId} {dI : Nat → Nat → Nat} {cI cZ : ClassId} {a : Nat → Nat} {A : Nat → Prop} (C0 : Cx p s m args meth c RX7 cX7_ask (some .int) 6 wsX7_ask) (hK : va_K (dC, dI) vwCl (tI cI cZ) s) (hA : ∀ q, s.heap.size ≤ q → A q) (hex : exE A s) (htr : l.stackTraces = false) (hnt : ∀ x ∈ c.exceptionTable.toList, False) (Z : Int32 × Int32 × St) (k : St → Int32 → Int32 → Int32 × Int32 × St) (kk : St → Int32 → Int32 → Prop) (hk : ∀ (S : St) (x2 : Int32) (x3 : Int32) (hok : kk S x2 x3) (hZ : k S x2 x3 = Z) (H : Heap) (locs : List Loc) (hP : va_P (dC, dI) vwCl (cW cI cZ a S) H) (hD : va_D A (cW cI cZ a S)) (hS : va_S A s.heap H locs) (ls : Array Slot) (hl : lv_has ls 6 [(0, .ref (a 0)), (2, .int x2), (3, .int x3)]), W p l e rm_X7_ask s m args below meth c H locs 0 0 (vx_MQ below (va_Qi (fun (r : Int32) (u : St) => (0, r, u) = Z) (cWB dC dI cI cZ a A) A) (exX dC dI cI cZ a A Z) args s 1 6 A) (F0 m 51 ls [])) (S : St) (x2 : Int32) (x3 : Int32) (hok : ok_X7_ask_62 kk S x2 x3) (hZ : rs_X7_ask_62 k S x2 x3 = Z) (H : Heap) (locs : List Loc) (hP : va_P (dC, dI) vwCl (cW cI cZ a S) H) (hD : va_D A (cW cI cZ a S)) (hS : va_S A s.heap H locs) (ls : Array Slot) (hl : lv_has ls 6 [(0, .ref (a 0)), (2, .int x2), (3, .int x3)]) : W p l e rm_X7_ask s m args below meth c H locs 0 0 (vx_MQ below (va_Qi (fun (r : Int32) (u : St) => (0, r, u) = Z) (cWB dC dI cI cZ a A) A) (exX dC dI cI cZ a A Z) args s 1 6 A) (F0 m 62 ls []) := by
  obtain ⟨hx, hb, hr, hml, hown, hts, hlocks⟩ := id C0
  rw [ok_X7_ask_62] at hok
  rw [rs_X7_ask_62] at hZ
  refine lv_iinc (v := (x3 + 1)) (lv' := [(3, .int (x3 + 1)), (0, .ref (a 0)), (2, .int x2)]) hx hb dX7_ask_62 hl (k := 2) rfl rfl (by decide) rfl (fun ls hl => ?_)
  refine lv_goto (tgt := 51) hx hb dX7_ask_65 (by decide) ?_
  exact hk S x2 (x3 + 1) hok hZ _ _ hP hD hS _ (lv_sub hl [1, 2, 0] rfl)
def rs_X7_ask_124 (S : St) (x3 : Int32) : Int32 × Int32 × St := (0, x3, S)
def ok_X7_ask_124 (S : St) (x3 : Int32) : Prop := True
set_option maxHeartbeats 4000000 in
set_option maxRecDepth 100000 in
theorem w_X7_ask_124 {p : Program} {l : Launch} {e : Env} {s : State} {m : MethodId} {args : Array Value} {below : List Frame} {meth : Method} {c : Code} {dC : Nat → ClassId} {dI : Nat → Nat → Nat} {cI cZ : ClassId} {a : Nat → Nat} {A : Nat → Prop} (C0 : Cx p s m args meth c RX7 cX7_ask (some .int) 6 wsX7_ask) (hK : va_K (dC, dI) vwCl (tI cI cZ) s) (hA : ∀ q, s.heap.size ≤ q → A q) (hex : exE A s) (htr : l.stackTraces = false) (hnt : ∀ x ∈ c.exceptionTable.toList, False) (Z : Int32 × Int32 × St) (S : St) (x3 : Int32) (hok : ok_X7_ask_124 S x3) (hZ : rs_X7_ask_124 S x3 = Z) (H : Heap) (locs : List Loc) (hP : va_P (dC, dI) vwCl (cW cI cZ a S) H) (hD : va_D A (cW cI cZ a S)) (hS : va_S A s.heap H locs) (ls : Array Slot) (hl : lv_has ls 6 [(3, .int x3)]) : W p l e rm_X7_ask s m args below meth c H locs 0 0 (vx_MQ below (va_Qi (fun (r : Int32) (u : St) => (0, r, u) = Z) (cWB dC dI cI cZ a A) A) (exX dC dI cI cZ a A Z) args s 1 6 A) (F0 m 124 ls []) := by
  obtain ⟨hx, hb, hr, hml, hown, hts, hlocks⟩ := id C0
  rw [ok_X7_ask_124] at hok
  rw [rs_X7_ask_124] at hZ
  refine lv_iload_n hx hb dX7_ask_124 rfl (lv_at hl 0 rfl) ?_
  refine vx_ret (W.widen (k := 1) (n := 6) (Nat.le_of_ble_eq_true rfl) (Nat.le_of_ble_eq_true rfl) ?_)
  exact W.iret (v := x3) hx hb hr (fun t ht hW => ⟨⟨x3, S, rfl, hZ, by rw [ht]; exact hP, va_K.moved hW.alike hK, hD⟩, hS.F ht⟩) hS.2.2 dX7_ask_125 hlocks
def rs_X7_ask_119 (S : St) (x3 : Int32) (x5 : Int32) (z1 : Int32) (z2 : Int32) (z3 : Int32) : Int32 × Int32 × St := (rs_X7_ask_124 (rs_X0_judge S z1 z2 z3 x5) x3)
def ok_X7_ask_119 (S : St) (x3 : Int32) (x5 : Int32) (z1 : Int32) (z2 : Int32) (z3 : Int32) : Prop := ((ok_X0_judge S z1 z2 z3 x5) ∧ ok_X7_ask_124 (rs_X0_judge S z1 z2 z3 x5) x3)
set_option maxHeartbeats 4000000 in
set_option maxRecDepth 100000 in
theorem w_X7_ask_119 {p : Program} {l : Launch} {e : Env} {s : State} {m : MethodId} {args : Array Value} {below : List Frame} {meth : Method} {c : Code} {dC : Nat → ClassId} {dI : Nat → Nat → Nat} {cI cZ : ClassId} {a : Nat → Nat} {A : Nat → Prop} (C0 : Cx p s m args meth c RX7 cX7_ask (some .int) 6 wsX7_ask) (hK : va_K (dC, dI) vwCl (tI cI cZ) s) (hA : ∀ q, s.heap.size ≤ q → A q) (hex : exE A s) (htr : l.stackTraces = false) (hnt : ∀ x ∈ c.exceptionTable.toList, False) (Z : Int32 × Int32 × St) (S : St) (x3 : Int32) (x5 : Int32) (z1 : Int32) (z2 : Int32) (z3 : Int32) (hok : ok_X7_ask_119 S x3 x5 z1 z2 z3) (hZ : rs_X7_ask_119 S x3 x5 z1 z2 z3 = Z) (H : Heap) (locs : List Loc) (hP : va_P (dC, dI) vwCl (cW cI cZ a S) H) (hD : va_D A (cW cI cZ a S)) (hS : va_S A s.heap H locs) (ls : Array Slot) (hl : lv_has ls 6 [(3, .int x3), (5, .int x5)]) : W p l e rm_X7_ask s m args below meth c H locs 0 0 (vx_MQ below (va_Qi (fun (r : Int32) (u : St) => (0, r, u) = Z) (cWB dC dI cI cZ a A) A) (exX dC dI cI cZ a A Z) args s 1 6 A) (F0 m 119 ls [.int z3, .int z2, .int z1, .ref (a 17)]) := by
  obtain ⟨hx, hb, hr, hml, hown, hts, hlocks⟩ := id C0
  rw [ok_X7_ask_119] at hok
  rw [rs_X7_ask_119] at hZ
  refine lv_iload hx hb dX7_ask_119 (lv_at hl 1 rfl) ?_
  obtain ⟨k_1, hok⟩ := hok
  have hFc := wFw (w := cW cI cZ a S) hD hS hA
  refine va_callv (va_runV (As := [.int z1, .int z2, .int z3, .int x5]) (rest := []) ⟨hx, hb, hml, hown, hts⟩ (c_X0_judge l dC dI cI cZ a H.size S z1 z2 z3 x5 k_1) (cwV 4 hts gX7_ask_X0_judge rfl rfl rfl (by decide +kernel) ⟨Nat.le_of_ble_eq_true rfl, Nat.le_of_ble_eq_true rfl⟩) ⟨wBl, va_recv hK hP (ci := 0) (q0 := 17) rfl rfl, fun U hU hW => ⟨rfl, by rw [hU], by rw [hU]; exact hP, va_K.moved hW.alike hK, hD.weaken (fun _ _ _ _ => trivial)⟩⟩ rfl rfl hl.1 rfl (lv_room (Nat.le_of_ble_eq_true rfl)) dX7_ask_121 ⟨Nat.zero_le _, Nat.zero_le _⟩) hS (fun q _ h => hFc q h) hFc (fun u t H1 locs ht hvm hw hB hz1 hk1 hS => ?_)
  obtain ⟨hP, hD⟩ := wJn ht hFc hB.1 hB.2.2
  rw [hw] at hP hD
  generalize H1 = H at hP hS ⊢
  exact w_X7_ask_124 C0 hK hA hex htr hnt Z (rs_X0_judge S z1 z2 z3 x5) x3 hok hZ _ _ hP hD hS _ (lv_sub hl [0] rfl)
def rs_X7_ask_100 (S : St) (x2 : Int32) (x3 : Int32) (x4 : Int32) (z0 : Int32) : Int32 × Int32 × St := (if z0 = 0 then (rs_X7_ask_119 S x3 z0 x2 x3 x4) else (rs_X7_ask_119 S x3 z0 x2 x3 1))
def ok_X7_ask_100 (S : St) (x2 : Int32) (x3 : Int32) (x4 : Int32) (z0 : Int32) : Prop := (if z0 = 0 then ok_X7_ask_119 S x3 z0 x2 x3 x4 else ok_X7_ask_119 S x3 z0 x2 x3 1)
set_option maxHeartbeats 4000000 in
set_option maxRecDepth 100000 in
theorem w_X7_ask_100 {p : Program} {l : Launch} {e : Env} {s : State} {m : MethodId} {args : Array Value} {below : List Frame} {meth : Method} {c : Code} {dC : Nat → ClassId} {dI : Nat → Nat → Nat} {cI cZ : ClassId} {a : Nat → Nat} {A : Nat → Prop} (C0 : Cx p s m args meth c RX7 cX7_ask (some .int) 6 wsX7_ask) (hK : va_K (dC, dI) vwCl (tI cI cZ) s) (hA : ∀ q, s.heap.size ≤ q → A q) (hex : exE A s) (htr : l.stackTraces = false) (hnt : ∀ x ∈ c.exceptionTable.toList, False) (Z : Int32 × Int32 × St) (S : St) (x2 : Int32) (x3 : Int32) (x4 : Int32) (z0 : Int32) (hok : ok_X7_ask_100 S x2 x3 x4 z0) (hZ : rs_X7_ask_100 S x2 x3 x4 z0 = Z) (H : Heap) (locs : List Loc) (hP : va_P (dC, dI) vwCl (cW cI cZ a S) H) (hD : va_D A (cW cI cZ a S)) (hS : va_S A s.heap H locs) (ls : Array Slot) (hl : lv_has ls 6 [(0, .ref (a 0)), (2, .int x2), (3, .int x3), (4, .int x4)]) : W p l e rm_X7_ask s m args below meth c H locs 0 0 (vx_MQ below (va_Qi (fun (r : Int32) (u : St) => (0, r, u) = Z) (cWB dC dI cI cZ a A) A) (exX dC dI cI cZ a A Z) args s 1 6 A) (F0 m 100 ls [.int z0]) := by
  obtain ⟨hx, hb, hr, hml, hown, hts, hlocks⟩ := id C0
  rw [ok_X7_ask_100] at hok
  rw [rs_X7_ask_100] at hZ
  refine lv_istore (lv' := [(5, .int z0), (0, .ref (a 0)), (2, .int x2), (3, .int x3), (4, .int x4)]) hx hb dX7_ask_100 hl (by decide) rfl (fun ls hl => ?_)
  refine lv_aload_n hx hb dX7_ask_102 rfl (lv_at hl 1 rfl) ?_
  refine va_get (D := (dC, dI)) (ci := 6) (v := .ref (a 17)) (C := RX7) (T := TX7) (N := 8) hx hb hts iX7_ask_X7 hown hK hP 0 rfl rfl 5 (by decide) (hts (.fieldLink RX7 40 "RiskHouse" "cases" "LRiskHouse$Cases;") (by decide +kernel)) (fun _ h9 => h9) rfl dX7_ask_103 ?_
  refine lv_iload_n hx hb dX7_ask_106 rfl (lv_at hl 2 rfl) ?_
  refine lv_iload_n hx hb dX7_ask_107 rfl (lv_at hl 3 rfl) ?_
  refine lv_iload hx hb dX7_ask_108 (lv_at hl 0 rfl) ?_
  refine lv_if_eq (tgt := 117) hx hb dX7_ask_110 (by decide) (fun c_1 => ?_) (fun c_1 => ?_)
  · have hok := okT hok c_1
    have hZ := rsT hZ c_1
    refine lv_iload hx hb dX7_ask_117 (lv_at hl 4 rfl) ?_
    exact w_X7_ask_119 C0 hK hA hex htr hnt Z S x3 z0 x2 x3 x4 hok hZ _ _ hP hD hS _ (lv_sub hl [3, 0] rfl)
  · have hok := okF hok c_1
    have hZ := rsF hZ c_1
    refine lv_iconst (v := 1) hx hb dX7_ask_113 (by decide) ?_
    refine lv_goto (tgt := 119) hx hb dX7_ask_114 (by decide) ?_
    exact w_X7_ask_119 C0 hK hA hex htr hnt Z S x3 z0 x2 x3 1 hok hZ _ _ hP hD hS _ (lv_sub hl [3, 0] rfl)
def rs_X7_ask_99 (S : St) (x2 : Int32) (x3 : Int32) (x4 : Int32) : Int32 × Int32 × St := (rs_X7_ask_100 S x2 x3 x4 0)
def ok_X7_ask_99 (S : St) (x2 : Int32) (x3 : Int32) (x4 : Int32) : Prop := ok_X7_ask_100 S x2 x3 x4 0
set_option maxHeartbeats 4000000 in
set_option maxRecDepth 100000 in
theorem w_X7_ask_99 {p : Program} {l : Launch} {e : Env} {s : State} {m : MethodId} {args : Array Value} {below : List Frame} {meth : Method} {c : Code} {dC : Nat → ClassId} {dI : Nat → Nat → Nat} {cI cZ : ClassId} {a : Nat → Nat} {A : Nat → Prop} (C0 : Cx p s m args meth c RX7 cX7_ask (some .int) 6 wsX7_ask) (hK : va_K (dC, dI) vwCl (tI cI cZ) s) (hA : ∀ q, s.heap.size ≤ q → A q) (hex : exE A s) (htr : l.stackTraces = false) (hnt : ∀ x ∈ c.exceptionTable.toList, False) (Z : Int32 × Int32 × St) (S : St) (x2 : Int32) (x3 : Int32) (x4 : Int32) (hok : ok_X7_ask_99 S x2 x3 x4) (hZ : rs_X7_ask_99 S x2 x3 x4 = Z) (H : Heap) (locs : List Loc) (hP : va_P (dC, dI) vwCl (cW cI cZ a S) H) (hD : va_D A (cW cI cZ a S)) (hS : va_S A s.heap H locs) (ls : Array Slot) (hl : lv_has ls 6 [(0, .ref (a 0)), (2, .int x2), (3, .int x3), (4, .int x4)]) : W p l e rm_X7_ask s m args below meth c H locs 0 0 (vx_MQ below (va_Qi (fun (r : Int32) (u : St) => (0, r, u) = Z) (cWB dC dI cI cZ a A) A) (exX dC dI cI cZ a A Z) args s 1 6 A) (F0 m 99 ls []) := by
  obtain ⟨hx, hb, hr, hml, hown, hts, hlocks⟩ := id C0
  rw [ok_X7_ask_99] at hok
  rw [rs_X7_ask_99] at hZ
  refine lv_iconst (v := 0) hx hb dX7_ask_99 (by decide) ?_
  exact w_X7_ask_100 C0 hK hA hex htr hnt Z S x2 x3 x4 0 hok hZ _ _ hP hD hS _ (lv_sub hl [0, 1, 2, 3] rfl)
def rs_X7_ask_92 (S : St) (x2 : Int32) (x3 : Int32) (x4 : Int32) (z0 : Int32) : Int32 × Int32 × St := (if z0 = 0 then (rs_X7_ask_99 S x2 x3 x4) else (rs_X7_ask_100 S x2 x3 x4 1))
def ok_X7_ask_92 (S : St) (x2 : Int32) (x3 : Int32) (x4 : Int32) (z0 : Int32) : Prop := (if z0 = 0 then ok_X7_ask_99 S x2 x3 x4 else ok_X7_ask_100 S x2 x3 x4 1)
set_option maxHeartbeats 4000000 in
set_option maxRecDepth 100000 in
theorem w_X7_ask_92 {p : Program} {l : Launch} {e : Env} {s : State} {m : MethodId} {args : Array Value} {below : List Frame} {meth : Method} {c : Code} {dC : Nat → ClassId} {dI : Nat → Nat → Nat} {cI cZ : ClassId} {a : Nat → Nat} {A : Nat → Prop} (C0 : Cx p s m args meth c RX7 cX7_ask (some .int) 6 wsX7_ask) (hK : va_K (dC, dI) vwCl (tI cI cZ) s) (hA : ∀ q, s.heap.size ≤ q → A q) (hex : exE A s) (htr : l.stackTraces = false) (hnt : ∀ x ∈ c.exceptionTable.toList, False) (Z : Int32 × Int32 × St) (S : St) (x2 : Int32) (x3 : Int32) (x4 : Int32) (z0 : Int32) (hok : ok_X7_ask_92 S x2 x3 x4 z0) (hZ : rs_X7_ask_92 S x2 x3 x4 z0 = Z) (H : Heap) (locs : List Loc) (hP : va_P (dC, dI) vwCl (cW cI cZ a S) H) (hD : va_D A (cW cI cZ a S)) (hS : va_S A s.heap H locs) (ls : Array Slot) (hl : lv_has ls 6 [(0, .ref (a 0)), (2, .int x2), (3, .int x3), (4, .int x4)]) : W p l e rm_X7_ask s m args below meth c H locs 0 0 (vx_MQ below (va_Qi (fun (r : Int32) (u : St) => (0, r, u) = Z) (cWB dC dI cI cZ a A) A) (exX dC dI cI cZ a A Z) args s 1 6 A) (F0 m 92 ls [.int z0]) := by
  obtain ⟨hx, hb, hr, hml, hown, hts, hlocks⟩ := id C0
  rw [ok_X7_ask_92] at hok
  rw [rs_X7_ask_92] at hZ
  refine lv_if_eq (tgt := 99) hx hb dX7_ask_92 (by decide) (fun c_1 => ?_) (fun c_1 => ?_)
  · have hok := okT hok c_1
    have hZ := rsT hZ c_1
    exact w_X7_ask_99 C0 hK hA hex htr hnt Z S x2 x3 x4 hok hZ _ _ hP hD hS _ (lv_sub hl [0, 1, 2, 3] rfl)
  · have hok := okF hok c_1
    have hZ := rsF hZ c_1
    refine lv_iconst (v := 1) hx hb dX7_ask_95 (by decide) ?_
    refine lv_goto (tgt := 100) hx hb dX7_ask_96 (by decide) ?_
    exact w_X7_ask_100 C0 hK hA hex htr hnt Z S x2 x3 x4 1 hok hZ _ _ hP hD hS _ (lv_sub hl [0, 1, 2, 3] rfl)
def rs_X7_ask_73 (S : St) (x2 : Int32) (z0 : Int32) : Int32 × Int32 × St := (if (rs_X7_pathByPoints z0) = 0 then (rs_X7_ask_92 (rs_X6_grantsNext S).2 x2 z0 (rs_X7_pathByPoints z0) ((rs_X6_grantsNext S).1)) else (rs_X7_ask_99 S x2 z0 (rs_X7_pathByPoints z0)))
def ok_X7_ask_73 (S : St) (x2 : Int32) (z0 : Int32) : Prop := ((ok_X7_pathByPoints z0) ∧ (if (rs_X7_pathByPoints z0) = 0 then ((ok_X6_grantsNext S ) ∧ ok_X7_ask_92 (rs_X6_grantsNext S).2 x2 z0 (rs_X7_pathByPoints z0) ((rs_X6_grantsNext S).1)) else ok_X7_ask_99 S x2 z0 (rs_X7_pathByPoints z0)))
set_option maxHeartbeats 4000000 in
set_option maxRecDepth 100000 in
theorem w_X7_ask_73 {p : Program} {l : Launch} {e : Env} {s : State} {m : MethodId} {args : Array Value} {below : List Frame} {meth : Method} {c : Code} {dC : Nat → ClassId} {dI : Nat → Nat → Nat} {cI cZ : ClassId} {a : Nat → Nat} {A : Nat → Prop} (C0 : Cx p s m args meth c RX7 cX7_ask (some .int) 6 wsX7_ask) (hK : va_K (dC, dI) vwCl (tI cI cZ) s) (hA : ∀ q, s.heap.size ≤ q → A q) (hex : exE A s) (htr : l.stackTraces = false) (hnt : ∀ x ∈ c.exceptionTable.toList, False) (Z : Int32 × Int32 × St) (S : St) (x2 : Int32) (z0 : Int32) (hok : ok_X7_ask_73 S x2 z0) (hZ : rs_X7_ask_73 S x2 z0 = Z) (H : Heap) (locs : List Loc) (hP : va_P (dC, dI) vwCl (cW cI cZ a S) H) (hD : va_D A (cW cI cZ a S)) (hS : va_S A s.heap H locs) (ls : Array Slot) (hl : lv_has ls 6 [(0, .ref (a 0)), (2, .int x2)]) : W p l e rm_X7_ask s m args below meth c H locs 0 0 (vx_MQ below (va_Qi (fun (r : Int32) (u : St) => (0, r, u) = Z) (cWB dC dI cI cZ a A) A) (exX dC dI cI cZ a A Z) args s 1 6 A) (F0 m 73 ls [.int z0]) := by
  obtain ⟨hx, hb, hr, hml, hown, hts, hlocks⟩ := id C0
  rw [ok_X7_ask_73] at hok
  rw [rs_X7_ask_73] at hZ
  refine lv_istore_n (lv' := [(3, .int z0), (0, .ref (a 0)), (2, .int x2)]) hx hb dX7_ask_73 rfl hl (by decide) rfl (fun ls hl => ?_)
  refine lv_iload_n hx hb dX7_ask_74 rfl (lv_at hl 0 rfl) ?_
  obtain ⟨k_1, hok⟩ := hok
  have hFc := wFr hS hA
  refine va_calli (va_runS (As := [.int z0]) (rest := []) ⟨hx, hb, hml, hown, hts⟩ (c_X7_pathByPoints l H.size z0 k_1) (va_cwS 1 hts gX7_ask_X7_pathByPoints rfl rfl rfl (by decide +kernel) ⟨Nat.le_of_ble_eq_true rfl, Nat.le_of_ble_eq_true rfl⟩) ⟨fun a9 U g9 mk9 q9 => q9, fun U hU hW => ⟨rfl, congrArg Array.size hU⟩⟩ rfl rfl hl.1 rfl (lv_room (Nat.le_of_ble_eq_true rfl)) dX7_ask_75 ⟨Nat.zero_le _, Nat.zero_le _⟩) hS (fun q _ h => hFc q h) hFc (fun r u t H1 locs ht hvm hw hB hz1 hk1 hS => ?_)
  have hP := wKp hP hk1
  subst hw
  generalize H1 = H at hP hS ⊢
  refine lv_istore (lv' := [(4, .int (rs_X7_pathByPoints z0)), (3, .int z0), (0, .ref (a 0)), (2, .int x2)]) hx hb dX7_ask_78 hl (by decide) rfl (fun ls hl => ?_)
  refine lv_iload hx hb dX7_ask_80 (lv_at hl 0 rfl) ?_
  refine lv_if_ne (tgt := 99) hx hb dX7_ask_82 (by decide) (fun c_2 => ?_) (fun c_2 => ?_)
  · have hok := okF hok c_2
    have hZ := rsF hZ c_2
    exact w_X7_ask_99 C0 hK hA hex htr hnt Z S x2 z0 (rs_X7_pathByPoints z0) hok hZ _ _ hP hD hS _ (lv_sub hl [2, 3, 1, 0] rfl)
  · have hok := okT hok c_2
    have hZ := rsT hZ c_2
    refine lv_aload_n hx hb dX7_ask_85 rfl (lv_at hl 2 rfl) ?_
    refine va_get (D := (dC, dI)) (ci := 6) (v := .ref (a 15)) (C := RX7) (T := TX7) (N := 8) hx hb hts iX7_ask_X7 hown hK hP 0 rfl rfl 4 (by decide) (hts (.fieldLink RX7 33 "RiskHouse" "chances" "LRiskHouse$Tape;") (by decide +kernel)) (fun _ h9 => h9) rfl dX7_ask_86 ?_
    obtain ⟨k_3, hok⟩ := hok
    have hFc := wFw (w := cW cI cZ a S) hD hS hA
    refine va_calli (va_runV (As := []) (rest := []) ⟨hx, hb, hml, hown, hts⟩ (c_X6_grantsNext l dC dI cI cZ a H.size S  k_3) (cwV 0 hts gX7_ask_X6_grantsNext rfl rfl rfl (by decide +kernel) ⟨Nat.le_of_ble_eq_true rfl, Nat.le_of_ble_eq_true rfl⟩) ⟨wBl, va_recv hK hP (ci := 5) (q0 := 15) rfl rfl, fun U hU hW => ⟨rfl, by rw [hU], by rw [hU]; exact hP, va_K.moved hW.alike hK, hD.weaken (fun _ _ _ _ => trivial)⟩⟩ rfl rfl hl.1 rfl (lv_room (Nat.le_of_ble_eq_true rfl)) dX7_ask_89 ⟨Nat.zero_le _, Nat.zero_le _⟩) hS (fun q _ h => hFc q h) hFc (fun r u t H1 locs ht hvm hw hB hz1 hk1 hS => ?_)
    obtain ⟨hP, hD⟩ := wJn ht hFc hB.1 hB.2.2
    have e1 : r = (rs_X6_grantsNext S).1 := congrArg Prod.fst hw
    have e2 : u = (rs_X6_grantsNext S).2 := congrArg Prod.snd hw
    rw [e1]
    rw [e2] at hP hD
    generalize H1 = H at hP hS ⊢
    exact w_X7_ask_92 C0 hK hA hex htr hnt Z (rs_X6_grantsNext S).2 x2 z0 (rs_X7_pathByPoints z0) ((rs_X6_grantsNext S).1) hok hZ _ _ hP hD hS _ (lv_sub hl [2, 3, 1, 0] rfl)
def rs_X7_ask_51 : Nat → St → Int32 → Int32 → Int32 × Int32 × St
  | 0, S, x2, x3 => (0, 0, S)
  | n + 1, S, x2, x3 => (if 4 ≤ x3 then (rs_X7_ask_73 (rs_X7_runPlainRules S x2).2 x2 ((rs_X7_runPlainRules S x2).1)) else (rs_X7_ask_62 (rs_X7_ask_51 n) (rs_X7_startIfDue S x3 x2) x2 x3))
def ok_X7_ask_51 : Nat → St → Int32 → Int32 → Prop
  | 0, _, _, _ => False
  | n + 1, S, x2, x3 => (if 4 ≤ x3 then ((ok_X7_runPlainRules S x2) ∧ ok_X7_ask_73 (rs_X7_runPlainRules S x2).2 x2 ((rs_X7_runPlainRules S x2).1)) else ((ok_X7_startIfDue S x3 x2) ∧ ok_X7_ask_62 (ok_X7_ask_51 n) (rs_X7_startIfDue S x3 x2) x2 x3))
set_option maxHeartbeats 4000000 in
set_option maxRecDepth 100000 in
theorem w_X7_ask_51 {p : Program} {l : Launch} {e : Env} {s : State} {m : MethodId} {args : Array Value} {below : List Frame} {meth : Method} {c : Code} {dC : Nat → ClassId} {dI : Nat → Nat → Nat} {cI cZ : ClassId} {a : Nat → Nat} {A : Nat → Prop} (C0 : Cx p s m args meth c RX7 cX7_ask (some .int) 6 wsX7_ask) (hK : va_K (dC, dI) vwCl (tI cI cZ) s) (hA : ∀ q, s.heap.size ≤ q → A q) (hex : exE A s) (htr : l.stackTraces = false) (hnt : ∀ x ∈ c.exceptionTable.toList, False) (Z : Int32 × Int32 × St) : ∀ (n : Nat) (S : St) (x2 : Int32) (x3 : Int32) (hok : ok_X7_ask_51 n S x2 x3) (hZ : rs_X7_ask_51 n S x2 x3 = Z) (H : Heap) (locs : List Loc) (hP : va_P (dC, dI) vwCl (cW cI cZ a S) H) (hD : va_D A (cW cI cZ a S)) (hS : va_S A s.heap H locs) (ls : Array Slot) (hl : lv_has ls 6 [(0, .ref (a 0)), (2, .int x2), (3, .int x3)]), W p l e rm_X7_ask s m args below meth c H locs 0 0 (vx_MQ below (va_Qi (fun (r : Int32) (u : St) => (0, r, u) = Z) (cWB dC dI cI cZ a A) A) (exX dC dI cI cZ a A Z) args s 1 6 A) (F0 m 51 ls []) := by
  obtain ⟨hx, hb, hr, hml, hown, hts, hlocks⟩ := id C0
  intro n
  induction n with
  | zero => intro S x2 x3 hok; exact absurd hok (fun h => h)
  | succ n ih =>
    intro S x2 x3 hok hZ H locs hP hD hS ls hl
    rw [ok_X7_ask_51] at hok
    rw [rs_X7_ask_51] at hZ
    refine lv_iload_n hx hb dX7_ask_51 rfl (lv_at hl 2 rfl) ?_
    refine lv_iconst (v := 4) hx hb dX7_ask_52 (by decide) ?_
    refine lv_icmp_ge (tgt := 68) hx hb dX7_ask_53 (by decide) (fun c_1 => ?_) (fun c_1 => ?_)
    · have hok := okT hok c_1
      have hZ := rsT hZ c_1
      refine lv_aload_n hx hb dX7_ask_68 rfl (lv_at hl 0 rfl) ?_
      refine lv_iload_n hx hb dX7_ask_69 rfl (lv_at hl 1 rfl) ?_
      obtain ⟨k_2, hok⟩ := hok
      have hFc := wFw (w := cW cI cZ a S) hD hS hA
      refine va_calli (va_runV (As := [.int x2]) (rest := []) ⟨hx, hb, hml, hown, hts⟩ (c_X7_runPlainRules l dC dI cI cZ a H.size S x2 k_2) (cwV 1 hts gX7_ask_X7_runPlainRules rfl rfl rfl (by decide +kernel) ⟨Nat.le_of_ble_eq_true rfl, Nat.le_of_ble_eq_true rfl⟩) ⟨wBl, va_recv hK hP (ci := 6) (q0 := 0) rfl rfl, fun U hU hW => ⟨rfl, by rw [hU], by rw [hU]; exact hP, va_K.moved hW.alike hK, hD.weaken (fun _ _ _ _ => trivial)⟩⟩ rfl rfl hl.1 rfl (lv_room (Nat.le_of_ble_eq_true rfl)) dX7_ask_70 ⟨Nat.zero_le _, Nat.zero_le _⟩) hS (fun q _ h => hFc q h) hFc (fun r u t H1 locs ht hvm hw hB hz1 hk1 hS => ?_)
      obtain ⟨hP, hD⟩ := wJn ht hFc hB.1 hB.2.2
      have e1 : r = (rs_X7_runPlainRules S x2).1 := congrArg Prod.fst hw
      have e2 : u = (rs_X7_runPlainRules S x2).2 := congrArg Prod.snd hw
      rw [e1]
      rw [e2] at hP hD
      generalize H1 = H at hP hS ⊢
      exact w_X7_ask_73 C0 hK hA hex htr hnt Z (rs_X7_runPlainRules S x2).2 x2 ((rs_X7_runPlainRules S x2).1) hok hZ _ _ hP hD hS _ (lv_sub hl [0, 1] rfl)
    · have hok := okF hok c_1
      have hZ := rsF hZ c_1
      refine lv_aload_n hx hb dX7_ask_56 rfl (lv_at hl 0 rfl) ?_
      refine lv_iload_n hx hb dX7_ask_57 rfl (lv_at hl 2 rfl) ?_
      refine lv_iload_n hx hb dX7_ask_58 rfl (lv_at hl 1 rfl) ?_
      obtain ⟨k_3, hok⟩ := hok
      have hFc := wFw (w := cW cI cZ a S) hD hS hA
      refine va_callv (va_runV (As := [.int x3, .int x2]) (rest := []) ⟨hx, hb, hml, hown, hts⟩ (c_X7_startIfDue l dC dI cI cZ a H.size S x3 x2 k_3) (cwV 2 hts gX7_ask_X7_startIfDue rfl rfl rfl (by decide +kernel) ⟨Nat.le_of_ble_eq_true rfl, Nat.le_of_ble_eq_true rfl⟩) ⟨wBl, va_recv hK hP (ci := 6) (q0 := 0) rfl rfl, fun U hU hW => ⟨rfl, by rw [hU], by rw [hU]; exact hP, va_K.moved hW.alike hK, hD.weaken (fun _ _ _ _ => trivial)⟩⟩ rfl rfl hl.1 rfl (lv_room (Nat.le_of_ble_eq_true rfl)) dX7_ask_59 ⟨Nat.zero_le _, Nat.zero_le _⟩) hS (fun q _ h => hFc q h) hFc (fun u t H1 locs ht hvm hw hB hz1 hk1 hS => ?_)
      obtain ⟨hP, hD⟩ := wJn ht hFc hB.1 hB.2.2
      rw [hw] at hP hD
      generalize H1 = H at hP hS ⊢
      exact w_X7_ask_62 C0 hK hA hex htr hnt Z (rs_X7_ask_51 n) (ok_X7_ask_51 n) ih (rs_X7_startIfDue S x3 x2) x2 x3 hok hZ _ _ hP hD hS _ (lv_sub hl [0, 1, 2] rfl)
def rs_X7_ask_48 (S : St) (z0 : Int32) : Int32 × Int32 × St := (rs_X7_ask_51 100 S z0 0)
def ok_X7_ask_48 (S : St) (z0 : Int32) : Prop := ok_X7_ask_51 100 S z0 0
set_option maxHeartbeats 4000000 in
set_option maxRecDepth 100000 in
theorem w_X7_ask_48 {p : Program} {l : Launch} {e : Env} {s : State} {m : MethodId} {args : Array Value} {below : List Frame} {meth : Method} {c : Code} {dC : Nat → ClassId} {dI : Nat → Nat → Nat} {cI cZ : ClassId} {a : Nat → Nat} {A : Nat → Prop} (C0 : Cx p s m args meth c RX7 cX7_ask (some .int) 6 wsX7_ask) (hK : va_K (dC, dI) vwCl (tI cI cZ) s) (hA : ∀ q, s.heap.size ≤ q → A q) (hex : exE A s) (htr : l.stackTraces = false) (hnt : ∀ x ∈ c.exceptionTable.toList, False) (Z : Int32 × Int32 × St) (S : St) (z0 : Int32) (hok : ok_X7_ask_48 S z0) (hZ : rs_X7_ask_48 S z0 = Z) (H : Heap) (locs : List Loc) (hP : va_P (dC, dI) vwCl (cW cI cZ a S) H) (hD : va_D A (cW cI cZ a S)) (hS : va_S A s.heap H locs) (ls : Array Slot) (hl : lv_has ls 6 [(0, .ref (a 0))]) : W p l e rm_X7_ask s m args below meth c H locs 0 0 (vx_MQ below (va_Qi (fun (r : Int32) (u : St) => (0, r, u) = Z) (cWB dC dI cI cZ a A) A) (exX dC dI cI cZ a A Z) args s 1 6 A) (F0 m 48 ls [.int z0]) := by
  obtain ⟨hx, hb, hr, hml, hown, hts, hlocks⟩ := id C0
  rw [ok_X7_ask_48] at hok
  rw [rs_X7_ask_48] at hZ
  refine lv_istore_n (lv' := [(2, .int z0), (0, .ref (a 0))]) hx hb dX7_ask_48 rfl hl (by decide) rfl (fun ls hl => ?_)
  refine lv_iconst (v := 0) hx hb dX7_ask_49 (by decide) ?_
  refine lv_istore_n (lv' := [(3, .int 0), (2, .int z0), (0, .ref (a 0))]) hx hb dX7_ask_50 rfl hl (by decide) rfl (fun ls hl => ?_)
  exact w_X7_ask_51 C0 hK hA hex htr hnt Z 100 S z0 0 hok hZ _ _ hP hD hS _ (lv_sub hl [2, 1, 0] rfl)
def rs_X7_ask (S : St) (x1 : Int32) : Int32 × Int32 × St := (if (rs_X7_isBelow x1 4) = 0 then (1, 0, S) else (if (S.1 686) < 40 then (rs_X7_ask_48 (rs_X0_open S x1).2 ((rs_X0_open S x1).1)) else (2, 0, S)))
def ok_X7_ask (S : St) (x1 : Int32) : Prop := ((ok_X7_isBelow x1 4) ∧ (if (rs_X7_isBelow x1 4) = 0 then True else (if (S.1 686) < 40 then ((ok_X0_open S x1) ∧ ok_X7_ask_48 (rs_X0_open S x1).2 ((rs_X0_open S x1).1)) else True)))
set_option maxHeartbeats 4000000 in
set_option maxRecDepth 100000 in
theorem w_X7_ask {p : Program} {l : Launch} {e : Env} {s : State} {m : MethodId} {args : Array Value} {below : List Frame} {meth : Method} {c : Code} {dC : Nat → ClassId} {dI : Nat → Nat → Nat} {cI cZ : ClassId} {a : Nat → Nat} {A : Nat → Prop} (C0 : Cx p s m args meth c RX7 cX7_ask (some .int) 6 wsX7_ask) (hK : va_K (dC, dI) vwCl (tI cI cZ) s) (hA : ∀ q, s.heap.size ≤ q → A q) (hex : exE A s) (htr : l.stackTraces = false) (hnt : ∀ x ∈ c.exceptionTable.toList, False) (Z : Int32 × Int32 × St) (S : St) (x1 : Int32) (hok : ok_X7_ask S x1) (hZ : rs_X7_ask S x1 = Z) (H : Heap) (locs : List Loc) (hP : va_P (dC, dI) vwCl (cW cI cZ a S) H) (hD : va_D A (cW cI cZ a S)) (hS : va_S A s.heap H locs) (ls : Array Slot) (hl : lv_has ls 6 [(0, .ref (a 0)), (1, .int x1)]) : W p l e rm_X7_ask s m args below meth c H locs 0 0 (vx_MQ below (va_Qi (fun (r : Int32) (u : St) => (0, r, u) = Z) (cWB dC dI cI cZ a A) A) (exX dC dI cI cZ a A Z) args s 1 6 A) (F0 m 0 ls []) := by
  obtain ⟨hx, hb, hr, hml, hown, hts, hlocks⟩ := id C0
  rw [ok_X7_ask] at hok
  rw [rs_X7_ask] at hZ
  refine lv_iload_n hx hb dX7_ask_0 rfl (lv_at hl 1 rfl) ?_
  refine lv_iconst (v := 4) hx hb dX7_ask_1 (by decide) ?_
  obtain ⟨k_1, hok⟩ := hok
  have hFc := wFr hS hA
  refine va_calli (va_runS (As := [.int x1, .int 4]) (rest := []) ⟨hx, hb, hml, hown, hts⟩ (c_X7_isBelow l H.size x1 4 k_1) (va_cwS 2 hts gX7_ask_X7_isBelow rfl rfl rfl (by decide +kernel) ⟨Nat.le_of_ble_eq_true rfl, Nat.le_of_ble_eq_true rfl⟩) ⟨fun a9 U g9 mk9 q9 => q9, fun U hU hW => ⟨rfl, congrArg Array.size hU⟩⟩ rfl rfl hl.1 rfl (lv_room (Nat.le_of_ble_eq_true rfl)) dX7_ask_2 ⟨Nat.zero_le _, Nat.zero_le _⟩) hS (fun q _ h => hFc q h) hFc (fun r u t H1 locs ht hvm hw hB hz1 hk1 hS => ?_)
  have hP := wKp hP hk1
  subst hw
  generalize H1 = H at hP hS ⊢
  refine lv_if_ne (tgt := 18) hx hb dX7_ask_5 (by decide) (fun c_2 => ?_) (fun c_2 => ?_)
  · have hok := okF hok c_2
    have hZ := rsF hZ c_2
    refine lv_aload_n hx hb dX7_ask_18 rfl (lv_at hl 0 rfl) ?_
    refine va_get (D := (dC, dI)) (ci := 6) (v := .ref (a 17)) (C := RX7) (T := TX7) (N := 8) hx hb hts iX7_ask_X7 hown hK hP 0 rfl rfl 5 (by decide) (hts (.fieldLink RX7 40 "RiskHouse" "cases" "LRiskHouse$Cases;") (by decide +kernel)) (fun _ h9 => h9) rfl dX7_ask_19 ?_
    refine va_get (D := (dC, dI)) (ci := 0) (v := .int (S.1 686)) (C := RX0) (T := TX0) (N := 8) hx hb hts iX7_ask_X0 hown hK hP 17 rfl rfl 6 (by decide) (hts (.fieldLink RX7 133 "RiskHouse$Cases" "size" "I") (by decide +kernel)) (fun _ h9 => h9) rfl dX7_ask_22 ?_
    refine lv_bipush (v := 40) hx hb dX7_ask_25 (by decide) ?_
    refine lv_icmp_lt (tgt := 40) hx hb dX7_ask_27 (by decide) (fun c_3 => ?_) (fun c_3 => ?_)
    · have hok := okT hok c_3
      have hZ := rsT hZ c_3
      refine lv_aload_n hx hb dX7_ask_40 rfl (lv_at hl 0 rfl) ?_
      refine va_get (D := (dC, dI)) (ci := 6) (v := .ref (a 17)) (C := RX7) (T := TX7) (N := 8) hx hb hts iX7_ask_X7 hown hK hP 0 rfl rfl 5 (by decide) (hts (.fieldLink RX7 40 "RiskHouse" "cases" "LRiskHouse$Cases;") (by decide +kernel)) (fun _ h9 => h9) rfl dX7_ask_41 ?_
      refine lv_iload_n hx hb dX7_ask_44 rfl (lv_at hl 1 rfl) ?_
      obtain ⟨k_4, hok⟩ := hok
      have hFc := wFw (w := cW cI cZ a S) hD hS hA
      refine va_calli (va_runV (As := [.int x1]) (rest := []) ⟨hx, hb, hml, hown, hts⟩ (c_X0_open l dC dI cI cZ a H.size S x1 k_4) (cwV 1 hts gX7_ask_X0_open rfl rfl rfl (by decide +kernel) ⟨Nat.le_of_ble_eq_true rfl, Nat.le_of_ble_eq_true rfl⟩) ⟨wBl, va_recv hK hP (ci := 0) (q0 := 17) rfl rfl, fun U hU hW => ⟨rfl, by rw [hU], by rw [hU]; exact hP, va_K.moved hW.alike hK, hD.weaken (fun _ _ _ _ => trivial)⟩⟩ rfl rfl hl.1 rfl (lv_room (Nat.le_of_ble_eq_true rfl)) dX7_ask_45 ⟨Nat.zero_le _, Nat.zero_le _⟩) hS (fun q _ h => hFc q h) hFc (fun r u t H1 locs ht hvm hw hB hz1 hk1 hS => ?_)
      obtain ⟨hP, hD⟩ := wJn ht hFc hB.1 hB.2.2
      have e1 : r = (rs_X0_open S x1).1 := congrArg Prod.fst hw
      have e2 : u = (rs_X0_open S x1).2 := congrArg Prod.snd hw
      rw [e1]
      rw [e2] at hP hD
      generalize H1 = H at hP hS ⊢
      exact w_X7_ask_48 C0 hK hA hex htr hnt Z (rs_X0_open S x1).2 ((rs_X0_open S x1).1) hok hZ _ _ hP hD hS _ (lv_sub hl [0] rfl)
    · have hok := okF hok c_3
      have hZ := rsF hZ c_3
      obtain ⟨sa, hstr⟩ := hex.2.2.1 (134, "no more cases") (by decide)
      refine vx_throwS (names := ["java/lang/RuntimeException", "java/lang/Exception"]) hx hb htr hown (by decide +kernel) (by decide +kernel) (hts (.classLink RX7 95 "java/lang/IllegalStateException") (by decide +kernel)) (hts (.initialized "java/lang/IllegalStateException") (by decide +kernel)) hstr (vx_hat (B := .castable "java/lang/IllegalStateException" "java/lang/IllegalStateException" :: exD.map Cond.declares) (fun w h => hts w (xm_X7_ask_99 w h)) (by decide +kernel) (vx_c (va_Nw.use rfl (hex.2.2.2.1 "java/lang/IllegalStateException" (by decide))) (exE.dc hex))) (by decide +kernel) hex.1 hex.2.1 hS (hl.1.trans hml.symm) dX7_ask_30 dX7_ask_33 dX7_ask_34 dX7_ask_36 dX7_ask_39 (fun x h => (hnt x h).elim) (Nat.le_of_ble_eq_true rfl) (Nat.le_of_ble_eq_true rfl) (Nat.le_of_ble_eq_true rfl) (Nat.le_of_ble_eq_true rfl) hlocks (fun t hvm hz hk9 => ⟨S, trivial, ⟨by decide, hZ, hP.kept (fun k q hq => hk9 q.1 (hP k q hq).lt), va_K.moved hvm hK, hD⟩, Nat.le_trans hS.1 hz, fun q h1 h2 => (hk9 q (Nat.lt_of_lt_of_le h1 hS.1)).trans (hS.2.1 q h1 h2)⟩) hS.2.2 (Nat.le_of_ble_eq_true rfl) (Nat.le_of_ble_eq_true rfl)
  · have hok := okT hok c_2
    have hZ := rsT hZ c_2
    obtain ⟨sa, hstr⟩ := hex.2.2.1 (131, "no such office") (by decide)
    refine vx_throwS (names := ["java/lang/RuntimeException", "java/lang/Exception"]) hx hb htr hown (by decide +kernel) (by decide +kernel) (hts (.classLink RX7 80 "java/lang/IllegalArgumentException") (by decide +kernel)) (hts (.initialized "java/lang/IllegalArgumentException") (by decide +kernel)) hstr (vx_hat (B := .castable "java/lang/IllegalArgumentException" "java/lang/IllegalArgumentException" :: exD.map Cond.declares) (fun w h => hts w (xm_X7_ask_84 w h)) (by decide +kernel) (vx_c (va_Nw.use rfl (hex.2.2.2.1 "java/lang/IllegalArgumentException" (by decide))) (exE.dc hex))) (by decide +kernel) hex.1 hex.2.1 hS (hl.1.trans hml.symm) dX7_ask_8 dX7_ask_11 dX7_ask_12 dX7_ask_14 dX7_ask_17 (fun x h => (hnt x h).elim) (Nat.le_of_ble_eq_true rfl) (Nat.le_of_ble_eq_true rfl) (Nat.le_of_ble_eq_true rfl) (Nat.le_of_ble_eq_true rfl) hlocks (fun t hvm hz hk9 => ⟨S, trivial, ⟨by decide, hZ, hP.kept (fun k q hq => hk9 q.1 (hP k q hq).lt), va_K.moved hvm hK, hD⟩, Nat.le_trans hS.1 hz, fun q h1 h2 => (hk9 q (Nat.lt_of_lt_of_le h1 hS.1)).trans (hS.2.1 q h1 h2)⟩) hS.2.2 (Nat.le_of_ble_eq_true rfl) (Nat.le_of_ble_eq_true rfl)
set_option maxHeartbeats 4000000 in
set_option maxRecDepth 100000 in
theorem c_X7_ask (l : Launch) (htr : l.stackTraces = false) (dC : Nat → ClassId) (dI : Nat → Nat → Nat) (cI cZ : ClassId) (a : Nat → Nat) (sz : Nat) (S : St) (x1 : Int32) (hok : ok_X7_ask S x1) : vx_Met l yX7_ask wsX7_ask rm_X7_ask (va_Pc [.ref (a 0), .int x1] (fun U => cWP dC dI cI cZ a sz S U ∧ exE (va_A (cW cI cZ a S) sz) U)) (va_Qi (fun (r : Int32) (u : St) => (0, r, u) = rs_X7_ask S x1) (cWB dC dI cI cZ a (va_A (cW cI cZ a S) sz)) (va_A (cW cI cZ a S) sz)) (exX dC dI cI cZ a (va_A (cW cI cZ a S) sz) (rs_X7_ask S x1)) 1 6 (va_A (cW cI cZ a S) sz) := by
  refine vx_ofW (cc := cX7_ask) (maxL := 6) (ret := (some .int)) (by decide) rfl ?_
  intro p e s m args below meth c s₁ B hml hnt hv
  obtain ⟨rfl, ⟨hsz, hP, hK, hD0⟩, hex⟩ := hv
  subst hsz
  have hD := hD0.self (sz := s.heap.size)
  have hl := lv_entry ([.ref (a 0), .int x1]) (n := 6) (Nat.le_of_ble_eq_true rfl)
  rw [lg_entry_eq]
  generalize (lg_sl ([.ref (a 0), .int x1]) ++ List.replicate (6 - (lg_sl ([.ref (a 0), .int x1])).length) Slot.unset).toArray = ls at hl ⊢
  have hl : lv_has ls 6 [(0, .ref (a 0)), (1, .int x1)] := hl
  exact w_X7_ask ⟨B.exec, B.bytes, B.returns, hml, findClass_of_methodNamed B.named, atoms_spec (ws := wsX7_ask) B.pre, B.notSynchronized⟩ hK (fun q h => Or.inr h) hex htr hnt _ S x1 hok rfl _ _ hP hD va_S.rf ls hl
abbrev rm_X7_decide : Room := { frames := 6, cells := 1, slots := 6, locals := 82 }
theorem xm_X7_decide_84 : ∀ w ∈ (vx_atS RX7 84 "java/lang/IllegalArgumentException" ["java/lang/RuntimeException", "java/lang/Exception"]).filter goodWord, w ∈ wsX7_decide := by decide +kernel
theorem iX7_decide_X7 : ∀ w ∈ wsX70, w ∈ wsX7_decide := by decide +kernel
def rs_X7_decide_40 (S : St) (z0 : Int32) : Int32 × Int32 × St := (0, z0, S)
def ok_X7_decide_40 (S : St) (z0 : Int32) : Prop := True
set_option maxHeartbeats 4000000 in
set_option maxRecDepth 100000 in
theorem w_X7_decide_40 {p : Program} {l : Launch} {e : Env} {s : State} {m : MethodId} {args : Array Value} {below : List Frame} {meth : Method} {c : Code} {dC : Nat → ClassId} {dI : Nat → Nat → Nat} {cI cZ : ClassId} {a : Nat → Nat} {A : Nat → Prop} (C0 : Cx p s m args meth c RX7 cX7_decide (some .int) 2 wsX7_decide) (hK : va_K (dC, dI) vwCl (tI cI cZ) s) (hA : ∀ q, s.heap.size ≤ q → A q) (hex : exE A s) (htr : l.stackTraces = false) (hnt : ∀ x ∈ c.exceptionTable.toList, False) (Z : Int32 × Int32 × St) (S : St) (z0 : Int32) (hok : ok_X7_decide_40 S z0) (hZ : rs_X7_decide_40 S z0 = Z) (H : Heap) (locs : List Loc) (hP : va_P (dC, dI) vwCl (cW cI cZ a S) H) (hD : va_D A (cW cI cZ a S)) (hS : va_S A s.heap H locs) (ls : Array Slot) (hl : lv_has ls 2 []) : W p l e rm_X7_decide s m args below meth c H locs 0 0 (vx_MQ below (va_Qi (fun (r : Int32) (u : St) => (0, r, u) = Z) (cWB dC dI cI cZ a A) A) (exX dC dI cI cZ a A Z) args s 1 6 A) (F0 m 40 ls [.int z0]) := by
  obtain ⟨hx, hb, hr, hml, hown, hts, hlocks⟩ := id C0
  rw [ok_X7_decide_40] at hok
  rw [rs_X7_decide_40] at hZ
  refine vx_ret (W.widen (k := 1) (n := 6) (Nat.le_of_ble_eq_true rfl) (Nat.le_of_ble_eq_true rfl) ?_)
  exact W.iret (v := z0) hx hb hr (fun t ht hW => ⟨⟨z0, S, rfl, hZ, by rw [ht]; exact hP, va_K.moved hW.alike hK, hD⟩, hS.F ht⟩) hS.2.2 dX7_decide_40 hlocks
def rs_X7_decide_32 (S : St) (x1 : Int32) : Int32 × Int32 × St := (rs_X7_decide_40 (rs_X0_close S x1).2 ((rs_X0_close S x1).1))
def ok_X7_decide_32 (S : St) (x1 : Int32) : Prop := ((ok_X0_close S x1) ∧ ok_X7_decide_40 (rs_X0_close S x1).2 ((rs_X0_close S x1).1))
set_option maxHeartbeats 4000000 in
set_option maxRecDepth 100000 in
theorem w_X7_decide_32 {p : Program} {l : Launch} {e : Env} {s : State} {m : MethodId} {args : Array Value} {below : List Frame} {meth : Method} {c : Code} {dC : Nat → ClassId} {dI : Nat → Nat → Nat} {cI cZ : ClassId} {a : Nat → Nat} {A : Nat → Prop} (C0 : Cx p s m args meth c RX7 cX7_decide (some .int) 2 wsX7_decide) (hK : va_K (dC, dI) vwCl (tI cI cZ) s) (hA : ∀ q, s.heap.size ≤ q → A q) (hex : exE A s) (htr : l.stackTraces = false) (hnt : ∀ x ∈ c.exceptionTable.toList, False) (Z : Int32 × Int32 × St) (S : St) (x1 : Int32) (hok : ok_X7_decide_32 S x1) (hZ : rs_X7_decide_32 S x1 = Z) (H : Heap) (locs : List Loc) (hP : va_P (dC, dI) vwCl (cW cI cZ a S) H) (hD : va_D A (cW cI cZ a S)) (hS : va_S A s.heap H locs) (ls : Array Slot) (hl : lv_has ls 2 [(0, .ref (a 0)), (1, .int x1)]) : W p l e rm_X7_decide s m args below meth c H locs 0 0 (vx_MQ below (va_Qi (fun (r : Int32) (u : St) => (0, r, u) = Z) (cWB dC dI cI cZ a A) A) (exX dC dI cI cZ a A Z) args s 1 6 A) (F0 m 32 ls []) := by
  obtain ⟨hx, hb, hr, hml, hown, hts, hlocks⟩ := id C0
  rw [ok_X7_decide_32] at hok
  rw [rs_X7_decide_32] at hZ
  refine lv_aload_n hx hb dX7_decide_32 rfl (lv_at hl 0 rfl) ?_
  refine va_get (D := (dC, dI)) (ci := 6) (v := .ref (a 17)) (C := RX7) (T := TX7) (N := 8) hx hb hts iX7_decide_X7 hown hK hP 0 rfl rfl 5 (by decide) (hts (.fieldLink RX7 40 "RiskHouse" "cases" "LRiskHouse$Cases;") (by decide +kernel)) (fun _ h9 => h9) rfl dX7_decide_33 ?_
  refine lv_iload_n hx hb dX7_decide_36 rfl (lv_at hl 1 rfl) ?_
  obtain ⟨k_1, hok⟩ := hok
  have hFc := wFw (w := cW cI cZ a S) hD hS hA
  refine va_calli (va_runV (As := [.int x1]) (rest := []) ⟨hx, hb, hml, hown, hts⟩ (c_X0_close l dC dI cI cZ a H.size S x1 k_1) (cwV 1 hts gX7_decide_X0_close rfl rfl rfl (by decide +kernel) ⟨Nat.le_of_ble_eq_true rfl, Nat.le_of_ble_eq_true rfl⟩) ⟨wBl, va_recv hK hP (ci := 0) (q0 := 17) rfl rfl, fun U hU hW => ⟨rfl, by rw [hU], by rw [hU]; exact hP, va_K.moved hW.alike hK, hD.weaken (fun _ _ _ _ => trivial)⟩⟩ rfl rfl hl.1 rfl (lv_room (Nat.le_of_ble_eq_true rfl)) dX7_decide_37 ⟨Nat.zero_le _, Nat.zero_le _⟩) hS (fun q _ h => hFc q h) hFc (fun r u t H1 locs ht hvm hw hB hz1 hk1 hS => ?_)
  obtain ⟨hP, hD⟩ := wJn ht hFc hB.1 hB.2.2
  have e1 : r = (rs_X0_close S x1).1 := congrArg Prod.fst hw
  have e2 : u = (rs_X0_close S x1).2 := congrArg Prod.snd hw
  rw [e1]
  rw [e2] at hP hD
  generalize H1 = H at hP hS ⊢
  exact w_X7_decide_40 C0 hK hA hex htr hnt Z (rs_X0_close S x1).2 ((rs_X0_close S x1).1) hok hZ _ _ hP hD hS _ (lv_sub hl [] rfl)
def rs_X7_decide (S : St) (x1 : Int32) : Int32 × Int32 × St := (if (rs_X7_isBelow x1 4) = 0 then (1, 0, S) else (rs_X7_decide_32 (rs_X0_cutPaths S x1 ((S.2 2) x1.toNatClampNeg)) x1))
def ok_X7_decide (S : St) (x1 : Int32) : Prop := ((ok_X7_isBelow x1 4) ∧ (if (rs_X7_isBelow x1 4) = 0 then True else ((vp_in x1 4) ∧ ((ok_X0_cutPaths S x1 ((S.2 2) x1.toNatClampNeg)) ∧ ok_X7_decide_32 (rs_X0_cutPaths S x1 ((S.2 2) x1.toNatClampNeg)) x1))))
set_option maxHeartbeats 4000000 in
set_option maxRecDepth 100000 in
theorem w_X7_decide {p : Program} {l : Launch} {e : Env} {s : State} {m : MethodId} {args : Array Value} {below : List Frame} {meth : Method} {c : Code} {dC : Nat → ClassId} {dI : Nat → Nat → Nat} {cI cZ : ClassId} {a : Nat → Nat} {A : Nat → Prop} (C0 : Cx p s m args meth c RX7 cX7_decide (some .int) 2 wsX7_decide) (hK : va_K (dC, dI) vwCl (tI cI cZ) s) (hA : ∀ q, s.heap.size ≤ q → A q) (hex : exE A s) (htr : l.stackTraces = false) (hnt : ∀ x ∈ c.exceptionTable.toList, False) (Z : Int32 × Int32 × St) (S : St) (x1 : Int32) (hok : ok_X7_decide S x1) (hZ : rs_X7_decide S x1 = Z) (H : Heap) (locs : List Loc) (hP : va_P (dC, dI) vwCl (cW cI cZ a S) H) (hD : va_D A (cW cI cZ a S)) (hS : va_S A s.heap H locs) (ls : Array Slot) (hl : lv_has ls 2 [(0, .ref (a 0)), (1, .int x1)]) : W p l e rm_X7_decide s m args below meth c H locs 0 0 (vx_MQ below (va_Qi (fun (r : Int32) (u : St) => (0, r, u) = Z) (cWB dC dI cI cZ a A) A) (exX dC dI cI cZ a A Z) args s 1 6 A) (F0 m 0 ls []) := by
  obtain ⟨hx, hb, hr, hml, hown, hts, hlocks⟩ := id C0
  rw [ok_X7_decide] at hok
  rw [rs_X7_decide] at hZ
  refine lv_iload_n hx hb dX7_decide_0 rfl (lv_at hl 1 rfl) ?_
  refine lv_iconst (v := 4) hx hb dX7_decide_1 (by decide) ?_
  obtain ⟨k_1, hok⟩ := hok
  have hFc := wFr hS hA
  refine va_calli (va_runS (As := [.int x1, .int 4]) (rest := []) ⟨hx, hb, hml, hown, hts⟩ (c_X7_isBelow l H.size x1 4 k_1) (va_cwS 2 hts gX7_decide_X7_isBelow rfl rfl rfl (by decide +kernel) ⟨Nat.le_of_ble_eq_true rfl, Nat.le_of_ble_eq_true rfl⟩) ⟨fun a9 U g9 mk9 q9 => q9, fun U hU hW => ⟨rfl, congrArg Array.size hU⟩⟩ rfl rfl hl.1 rfl (lv_room (Nat.le_of_ble_eq_true rfl)) dX7_decide_2 ⟨Nat.zero_le _, Nat.zero_le _⟩) hS (fun q _ h => hFc q h) hFc (fun r u t H1 locs ht hvm hw hB hz1 hk1 hS => ?_)
  have hP := wKp hP hk1
  subst hw
  generalize H1 = H at hP hS ⊢
  refine lv_if_ne (tgt := 18) hx hb dX7_decide_5 (by decide) (fun c_2 => ?_) (fun c_2 => ?_)
  · have hok := okF hok c_2
    have hZ := rsF hZ c_2
    refine lv_aload_n hx hb dX7_decide_18 rfl (lv_at hl 0 rfl) ?_
    refine va_get (D := (dC, dI)) (ci := 6) (v := .ref (a 17)) (C := RX7) (T := TX7) (N := 8) hx hb hts iX7_decide_X7 hown hK hP 0 rfl rfl 5 (by decide) (hts (.fieldLink RX7 40 "RiskHouse" "cases" "LRiskHouse$Cases;") (by decide +kernel)) (fun _ h9 => h9) rfl dX7_decide_19 ?_
    refine lv_iload_n hx hb dX7_decide_22 rfl (lv_at hl 1 rfl) ?_
    refine lv_aload_n hx hb dX7_decide_23 rfl (lv_at hl 0 rfl) ?_
    refine va_get (D := (dC, dI)) (ci := 6) (v := .ref (a 2)) (C := RX7) (T := TX7) (N := 8) hx hb hts iX7_decide_X7 hown hK hP 0 rfl rfl 1 (by decide) (hts (.fieldLink RX7 13 "RiskHouse" "caps" "[I") (by decide +kernel)) (fun _ h9 => h9) rfl dX7_decide_24 ?_
    refine lv_iload_n hx hb dX7_decide_27 rfl (lv_at hl 1 rfl) ?_
    obtain ⟨h_3, hok⟩ := hok
    refine va_iald (f := (S.2 2)) hx hb hK hP 2 0 rfl rfl h_3 dX7_decide_28 ?_
    obtain ⟨k_4, hok⟩ := hok
    have hFc := wFw (w := cW cI cZ a S) hD hS hA
    refine va_callv (va_runV (As := [.int x1, .int ((S.2 2) x1.toNatClampNeg)]) (rest := []) ⟨hx, hb, hml, hown, hts⟩ (c_X0_cutPaths l dC dI cI cZ a H.size S x1 ((S.2 2) x1.toNatClampNeg) k_4) (cwV 2 hts gX7_decide_X0_cutPaths rfl rfl rfl (by decide +kernel) ⟨Nat.le_of_ble_eq_true rfl, Nat.le_of_ble_eq_true rfl⟩) ⟨wBl, va_recv hK hP (ci := 0) (q0 := 17) rfl rfl, fun U hU hW => ⟨rfl, by rw [hU], by rw [hU]; exact hP, va_K.moved hW.alike hK, hD.weaken (fun _ _ _ _ => trivial)⟩⟩ rfl rfl hl.1 rfl (lv_room (Nat.le_of_ble_eq_true rfl)) dX7_decide_29 ⟨Nat.zero_le _, Nat.zero_le _⟩) hS (fun q _ h => hFc q h) hFc (fun u t H1 locs ht hvm hw hB hz1 hk1 hS => ?_)
    obtain ⟨hP, hD⟩ := wJn ht hFc hB.1 hB.2.2
    rw [hw] at hP hD
    generalize H1 = H at hP hS ⊢
    exact w_X7_decide_32 C0 hK hA hex htr hnt Z (rs_X0_cutPaths S x1 ((S.2 2) x1.toNatClampNeg)) x1 hok hZ _ _ hP hD hS _ (lv_sub hl [0, 1] rfl)
  · have hok := okT hok c_2
    have hZ := rsT hZ c_2
    obtain ⟨sa, hstr⟩ := hex.2.2.1 (131, "no such office") (by decide)
    refine vx_throwS (names := ["java/lang/RuntimeException", "java/lang/Exception"]) hx hb htr hown (by decide +kernel) (by decide +kernel) (hts (.classLink RX7 80 "java/lang/IllegalArgumentException") (by decide +kernel)) (hts (.initialized "java/lang/IllegalArgumentException") (by decide +kernel)) hstr (vx_hat (B := .castable "java/lang/IllegalArgumentException" "java/lang/IllegalArgumentException" :: exD.map Cond.declares) (fun w h => hts w (xm_X7_decide_84 w h)) (by decide +kernel) (vx_c (va_Nw.use rfl (hex.2.2.2.1 "java/lang/IllegalArgumentException" (by decide))) (exE.dc hex))) (by decide +kernel) hex.1 hex.2.1 hS (hl.1.trans hml.symm) dX7_decide_8 dX7_decide_11 dX7_decide_12 dX7_decide_14 dX7_decide_17 (fun x h => (hnt x h).elim) (Nat.le_of_ble_eq_true rfl) (Nat.le_of_ble_eq_true rfl) (Nat.le_of_ble_eq_true rfl) (Nat.le_of_ble_eq_true rfl) hlocks (fun t hvm hz hk9 => ⟨S, trivial, ⟨by decide, hZ, hP.kept (fun k q hq => hk9 q.1 (hP k q hq).lt), va_K.moved hvm hK, hD⟩, Nat.le_trans hS.1 hz, fun q h1 h2 => (hk9 q (Nat.lt_of_lt_of_le h1 hS.1)).trans (hS.2.1 q h1 h2)⟩) hS.2.2 (Nat.le_of_ble_eq_true rfl) (Nat.le_of_ble_eq_true rfl)
set_option maxHeartbeats 4000000 in
set_option maxRecDepth 100000 in
theorem c_X7_decide (l : Launch) (htr : l.stackTraces = false) (dC : Nat → ClassId) (dI : Nat → Nat → Nat) (cI cZ : ClassId) (a : Nat → Nat) (sz : Nat) (S : St) (x1 : Int32) (hok : ok_X7_decide S x1) : vx_Met l yX7_decide wsX7_decide rm_X7_decide (va_Pc [.ref (a 0), .int x1] (fun U => cWP dC dI cI cZ a sz S U ∧ exE (va_A (cW cI cZ a S) sz) U)) (va_Qi (fun (r : Int32) (u : St) => (0, r, u) = rs_X7_decide S x1) (cWB dC dI cI cZ a (va_A (cW cI cZ a S) sz)) (va_A (cW cI cZ a S) sz)) (exX dC dI cI cZ a (va_A (cW cI cZ a S) sz) (rs_X7_decide S x1)) 1 6 (va_A (cW cI cZ a S) sz) := by
  refine vx_ofW (cc := cX7_decide) (maxL := 2) (ret := (some .int)) (by decide) rfl ?_
  intro p e s m args below meth c s₁ B hml hnt hv
  obtain ⟨rfl, ⟨hsz, hP, hK, hD0⟩, hex⟩ := hv
  subst hsz
  have hD := hD0.self (sz := s.heap.size)
  have hl := lv_entry ([.ref (a 0), .int x1]) (n := 2) (Nat.le_of_ble_eq_true rfl)
  rw [lg_entry_eq]
  generalize (lg_sl ([.ref (a 0), .int x1]) ++ List.replicate (2 - (lg_sl ([.ref (a 0), .int x1])).length) Slot.unset).toArray = ls at hl ⊢
  have hl : lv_has ls 2 [(0, .ref (a 0)), (1, .int x1)] := hl
  exact w_X7_decide ⟨B.exec, B.bytes, B.returns, hml, findClass_of_methodNamed B.named, atoms_spec (ws := wsX7_decide) B.pre, B.notSynchronized⟩ hK (fun q h => Or.inr h) hex htr hnt _ S x1 hok rfl _ _ hP hD va_S.rf ls hl
abbrev rm_X7_of : Room := { frames := 6, cells := 1, slots := 6, locals := 82 }
theorem xm_X7_of_168 : ∀ w ∈ (vx_atS RX7 168 "java/lang/IndexOutOfBoundsException" ["java/lang/RuntimeException", "java/lang/Exception"]).filter goodWord, w ∈ wsX7_of := by decide +kernel
theorem iX7_of_X0 : ∀ w ∈ wsX00, w ∈ wsX7_of := by decide +kernel
theorem iX7_of_X7 : ∀ w ∈ wsX70, w ∈ wsX7_of := by decide +kernel
def rs_X7_of_22 (S : St)  : Int32 × Int32 × St := (3, 0, S)
def ok_X7_of_22 (S : St)  : Prop := True
set_option maxHeartbeats 4000000 in
set_option maxRecDepth 100000 in
theorem w_X7_of_22 {p : Program} {l : Launch} {e : Env} {s : State} {m : MethodId} {args : Array Value} {below : List Frame} {meth : Method} {c : Code} {dC : Nat → ClassId} {dI : Nat → Nat → Nat} {cI cZ : ClassId} {a : Nat → Nat} {A : Nat → Prop} (C0 : Cx p s m args meth c RX7 cX7_of (some .int) 3 wsX7_of) (hK : va_K (dC, dI) vwCl (tI cI cZ) s) (hA : ∀ q, s.heap.size ≤ q → A q) (hex : exE A s) (htr : l.stackTraces = false) (hnt : ∀ x ∈ c.exceptionTable.toList, False) (Z : Int32 × Int32 × St) (S : St)  (hok : ok_X7_of_22 S) (hZ : rs_X7_of_22 S = Z) (H : Heap) (locs : List Loc) (hP : va_P (dC, dI) vwCl (cW cI cZ a S) H) (hD : va_D A (cW cI cZ a S)) (hS : va_S A s.heap H locs) (ls : Array Slot) (hl : lv_has ls 3 []) : W p l e rm_X7_of s m args below meth c H locs 0 0 (vx_MQ below (va_Qi (fun (r : Int32) (u : St) => (0, r, u) = Z) (cWB dC dI cI cZ a A) A) (exX dC dI cI cZ a A Z) args s 1 6 A) (F0 m 22 ls []) := by
  obtain ⟨hx, hb, hr, hml, hown, hts, hlocks⟩ := id C0
  rw [ok_X7_of_22] at hok
  rw [rs_X7_of_22] at hZ
  obtain ⟨sa, hstr⟩ := hex.2.2.1 (166, "no such case or what") (by decide)
  refine vx_throwS (names := ["java/lang/RuntimeException", "java/lang/Exception"]) hx hb htr hown (by decide +kernel) (by decide +kernel) (hts (.classLink RX7 164 "java/lang/IndexOutOfBoundsException") (by decide +kernel)) (hts (.initialized "java/lang/IndexOutOfBoundsException") (by decide +kernel)) hstr (vx_hat (B := .castable "java/lang/IndexOutOfBoundsException" "java/lang/IndexOutOfBoundsException" :: exD.map Cond.declares) (fun w h => hts w (xm_X7_of_168 w h)) (by decide +kernel) (vx_c (va_Nw.use rfl (hex.2.2.2.1 "java/lang/IndexOutOfBoundsException" (by decide))) (exE.dc hex))) (by decide +kernel) hex.1 hex.2.1 hS (hl.1.trans hml.symm) dX7_of_22 dX7_of_25 dX7_of_26 dX7_of_28 dX7_of_31 (fun x h => (hnt x h).elim) (Nat.le_of_ble_eq_true rfl) (Nat.le_of_ble_eq_true rfl) (Nat.le_of_ble_eq_true rfl) (Nat.le_of_ble_eq_true rfl) hlocks (fun t hvm hz hk9 => ⟨S, trivial, ⟨by decide, hZ, hP.kept (fun k q hq => hk9 q.1 (hP k q hq).lt), va_K.moved hvm hK, hD⟩, Nat.le_trans hS.1 hz, fun q h1 h2 => (hk9 q (Nat.lt_of_lt_of_le h1 hS.1)).trans (hS.2.1 q h1 h2)⟩) hS.2.2 (Nat.le_of_ble_eq_true rfl) (Nat.le_of_ble_eq_true rfl)
def rs_X7_of_41 (S : St) (z0 : Int32) : Int32 × Int32 × St := (0, z0, S)
def ok_X7_of_41 (S : St) (z0 : Int32) : Prop := True
set_option maxHeartbeats 4000000 in
set_option maxRecDepth 100000 in
theorem w_X7_of_41 {p : Program} {l : Launch} {e : Env} {s : State} {m : MethodId} {args : Array Value} {below : List Frame} {meth : Method} {c : Code} {dC : Nat → ClassId} {dI : Nat → Nat → Nat} {cI cZ : ClassId} {a : Nat → Nat} {A : Nat → Prop} (C0 : Cx p s m args meth c RX7 cX7_of (some .int) 3 wsX7_of) (hK : va_K (dC, dI) vwCl (tI cI cZ) s) (hA : ∀ q, s.heap.size ≤ q → A q) (hex : exE A s) (htr : l.stackTraces = false) (hnt : ∀ x ∈ c.exceptionTable.toList, False) (Z : Int32 × Int32 × St) (S : St) (z0 : Int32) (hok : ok_X7_of_41 S z0) (hZ : rs_X7_of_41 S z0 = Z) (H : Heap) (locs : List Loc) (hP : va_P (dC, dI) vwCl (cW cI cZ a S) H) (hD : va_D A (cW cI cZ a S)) (hS : va_S A s.heap H locs) (ls : Array Slot) (hl : lv_has ls 3 []) : W p l e rm_X7_of s m args below meth c H locs 0 0 (vx_MQ below (va_Qi (fun (r : Int32) (u : St) => (0, r, u) = Z) (cWB dC dI cI cZ a A) A) (exX dC dI cI cZ a A Z) args s 1 6 A) (F0 m 41 ls [.int z0]) := by
  obtain ⟨hx, hb, hr, hml, hown, hts, hlocks⟩ := id C0
  rw [ok_X7_of_41] at hok
  rw [rs_X7_of_41] at hZ
  refine vx_ret (W.widen (k := 1) (n := 6) (Nat.le_of_ble_eq_true rfl) (Nat.le_of_ble_eq_true rfl) ?_)
  exact W.iret (v := z0) hx hb hr (fun t ht hW => ⟨⟨z0, S, rfl, hZ, by rw [ht]; exact hP, va_K.moved hW.alike hK, hD⟩, hS.F ht⟩) hS.2.2 dX7_of_41 hlocks
def rs_X7_of (S : St) (x1 : Int32) (x2 : Int32) : Int32 × Int32 × St := (if (rs_X7_isBelow x1 (S.1 686)) = 0 then (rs_X7_of_22 S) else (if (rs_X7_isBelow x2 5) = 0 then (rs_X7_of_22 S) else (rs_X7_of_41 (rs_X0_answer S x1 x2).2 ((rs_X0_answer S x1 x2).1))))
def ok_X7_of (S : St) (x1 : Int32) (x2 : Int32) : Prop := ((ok_X7_isBelow x1 (S.1 686)) ∧ (if (rs_X7_isBelow x1 (S.1 686)) = 0 then ok_X7_of_22 S else ((ok_X7_isBelow x2 5) ∧ (if (rs_X7_isBelow x2 5) = 0 then ok_X7_of_22 S else ((ok_X0_answer S x1 x2) ∧ ok_X7_of_41 (rs_X0_answer S x1 x2).2 ((rs_X0_answer S x1 x2).1))))))
set_option maxHeartbeats 4000000 in
set_option maxRecDepth 100000 in
theorem w_X7_of {p : Program} {l : Launch} {e : Env} {s : State} {m : MethodId} {args : Array Value} {below : List Frame} {meth : Method} {c : Code} {dC : Nat → ClassId} {dI : Nat → Nat → Nat} {cI cZ : ClassId} {a : Nat → Nat} {A : Nat → Prop} (C0 : Cx p s m args meth c RX7 cX7_of (some .int) 3 wsX7_of) (hK : va_K (dC, dI) vwCl (tI cI cZ) s) (hA : ∀ q, s.heap.size ≤ q → A q) (hex : exE A s) (htr : l.stackTraces = false) (hnt : ∀ x ∈ c.exceptionTable.toList, False) (Z : Int32 × Int32 × St) (S : St) (x1 : Int32) (x2 : Int32) (hok : ok_X7_of S x1 x2) (hZ : rs_X7_of S x1 x2 = Z) (H : Heap) (locs : List Loc) (hP : va_P (dC, dI) vwCl (cW cI cZ a S) H) (hD : va_D A (cW cI cZ a S)) (hS : va_S A s.heap H locs) (ls : Array Slot) (hl : lv_has ls 3 [(0, .ref (a 0)), (1, .int x1), (2, .int x2)]) : W p l e rm_X7_of s m args below meth c H locs 0 0 (vx_MQ below (va_Qi (fun (r : Int32) (u : St) => (0, r, u) = Z) (cWB dC dI cI cZ a A) A) (exX dC dI cI cZ a A Z) args s 1 6 A) (F0 m 0 ls []) := by
  obtain ⟨hx, hb, hr, hml, hown, hts, hlocks⟩ := id C0
  rw [ok_X7_of] at hok
  rw [rs_X7_of] at hZ
  refine lv_iload_n hx hb dX7_of_0 rfl (lv_at hl 1 rfl) ?_
  refine lv_aload_n hx hb dX7_of_1 rfl (lv_at hl 0 rfl) ?_
  refine va_get (D := (dC, dI)) (ci := 6) (v := .ref (a 17)) (C := RX7) (T := TX7) (N := 8) hx hb hts iX7_of_X7 hown hK hP 0 rfl rfl 5 (by decide) (hts (.fieldLink RX7 40 "RiskHouse" "cases" "LRiskHouse$Cases;") (by decide +kernel)) (fun _ h9 => h9) rfl dX7_of_2 ?_
  refine va_get (D := (dC, dI)) (ci := 0) (v := .int (S.1 686)) (C := RX0) (T := TX0) (N := 8) hx hb hts iX7_of_X0 hown hK hP 17 rfl rfl 6 (by decide) (hts (.fieldLink RX7 133 "RiskHouse$Cases" "size" "I") (by decide +kernel)) (fun _ h9 => h9) rfl dX7_of_5 ?_
  obtain ⟨k_1, hok⟩ := hok
  have hFc := wFr hS hA
  refine va_calli (va_runS (As := [.int x1, .int (S.1 686)]) (rest := []) ⟨hx, hb, hml, hown, hts⟩ (c_X7_isBelow l H.size x1 (S.1 686) k_1) (va_cwS 2 hts gX7_of_X7_isBelow rfl rfl rfl (by decide +kernel) ⟨Nat.le_of_ble_eq_true rfl, Nat.le_of_ble_eq_true rfl⟩) ⟨fun a9 U g9 mk9 q9 => q9, fun U hU hW => ⟨rfl, congrArg Array.size hU⟩⟩ rfl rfl hl.1 rfl (lv_room (Nat.le_of_ble_eq_true rfl)) dX7_of_8 ⟨Nat.zero_le _, Nat.zero_le _⟩) hS (fun q _ h => hFc q h) hFc (fun r u t H1 locs ht hvm hw hB hz1 hk1 hS => ?_)
  have hP := wKp hP hk1
  subst hw
  generalize H1 = H at hP hS ⊢
  refine lv_if_eq (tgt := 22) hx hb dX7_of_11 (by decide) (fun c_2 => ?_) (fun c_2 => ?_)
  · have hok := okT hok c_2
    have hZ := rsT hZ c_2
    exact w_X7_of_22 C0 hK hA hex htr hnt Z S hok hZ _ _ hP hD hS _ (lv_sub hl [] rfl)
  · have hok := okF hok c_2
    have hZ := rsF hZ c_2
    refine lv_iload_n hx hb dX7_of_14 rfl (lv_at hl 2 rfl) ?_
    refine lv_iconst (v := 5) hx hb dX7_of_15 (by decide) ?_
    obtain ⟨k_3, hok⟩ := hok
    have hFc := wFr hS hA
    refine va_calli (va_runS (As := [.int x2, .int 5]) (rest := []) ⟨hx, hb, hml, hown, hts⟩ (c_X7_isBelow l H.size x2 5 k_3) (va_cwS 2 hts gX7_of_X7_isBelow rfl rfl rfl (by decide +kernel) ⟨Nat.le_of_ble_eq_true rfl, Nat.le_of_ble_eq_true rfl⟩) ⟨fun a9 U g9 mk9 q9 => q9, fun U hU hW => ⟨rfl, congrArg Array.size hU⟩⟩ rfl rfl hl.1 rfl (lv_room (Nat.le_of_ble_eq_true rfl)) dX7_of_16 ⟨Nat.zero_le _, Nat.zero_le _⟩) hS (fun q _ h => hFc q h) hFc (fun r u t H1 locs ht hvm hw hB hz1 hk1 hS => ?_)
    have hP := wKp hP hk1
    subst hw
    generalize H1 = H at hP hS ⊢
    refine lv_if_ne (tgt := 32) hx hb dX7_of_19 (by decide) (fun c_4 => ?_) (fun c_4 => ?_)
    · have hok := okF hok c_4
      have hZ := rsF hZ c_4
      refine lv_aload_n hx hb dX7_of_32 rfl (lv_at hl 0 rfl) ?_
      refine va_get (D := (dC, dI)) (ci := 6) (v := .ref (a 17)) (C := RX7) (T := TX7) (N := 8) hx hb hts iX7_of_X7 hown hK hP 0 rfl rfl 5 (by decide) (hts (.fieldLink RX7 40 "RiskHouse" "cases" "LRiskHouse$Cases;") (by decide +kernel)) (fun _ h9 => h9) rfl dX7_of_33 ?_
      refine lv_iload_n hx hb dX7_of_36 rfl (lv_at hl 1 rfl) ?_
      refine lv_iload_n hx hb dX7_of_37 rfl (lv_at hl 2 rfl) ?_
      obtain ⟨k_5, hok⟩ := hok
      have hFc := wFw (w := cW cI cZ a S) hD hS hA
      refine va_calli (va_runV (As := [.int x1, .int x2]) (rest := []) ⟨hx, hb, hml, hown, hts⟩ (c_X0_answer l dC dI cI cZ a H.size S x1 x2 k_5) (cwV 2 hts gX7_of_X0_answer rfl rfl rfl (by decide +kernel) ⟨Nat.le_of_ble_eq_true rfl, Nat.le_of_ble_eq_true rfl⟩) ⟨wBl, va_recv hK hP (ci := 0) (q0 := 17) rfl rfl, fun U hU hW => ⟨rfl, by rw [hU], by rw [hU]; exact hP, va_K.moved hW.alike hK, hD.weaken (fun _ _ _ _ => trivial)⟩⟩ rfl rfl hl.1 rfl (lv_room (Nat.le_of_ble_eq_true rfl)) dX7_of_38 ⟨Nat.zero_le _, Nat.zero_le _⟩) hS (fun q _ h => hFc q h) hFc (fun r u t H1 locs ht hvm hw hB hz1 hk1 hS => ?_)
      obtain ⟨hP, hD⟩ := wJn ht hFc hB.1 hB.2.2
      have e1 : r = (rs_X0_answer S x1 x2).1 := congrArg Prod.fst hw
      have e2 : u = (rs_X0_answer S x1 x2).2 := congrArg Prod.snd hw
      rw [e1]
      rw [e2] at hP hD
      generalize H1 = H at hP hS ⊢
      exact w_X7_of_41 C0 hK hA hex htr hnt Z (rs_X0_answer S x1 x2).2 ((rs_X0_answer S x1 x2).1) hok hZ _ _ hP hD hS _ (lv_sub hl [] rfl)
    · have hok := okT hok c_4
      have hZ := rsT hZ c_4
      exact w_X7_of_22 C0 hK hA hex htr hnt Z S hok hZ _ _ hP hD hS _ (lv_sub hl [] rfl)
set_option maxHeartbeats 4000000 in
set_option maxRecDepth 100000 in
theorem c_X7_of (l : Launch) (htr : l.stackTraces = false) (dC : Nat → ClassId) (dI : Nat → Nat → Nat) (cI cZ : ClassId) (a : Nat → Nat) (sz : Nat) (S : St) (x1 : Int32) (x2 : Int32) (hok : ok_X7_of S x1 x2) : vx_Met l yX7_of wsX7_of rm_X7_of (va_Pc [.ref (a 0), .int x1, .int x2] (fun U => cWP dC dI cI cZ a sz S U ∧ exE (va_A (cW cI cZ a S) sz) U)) (va_Qi (fun (r : Int32) (u : St) => (0, r, u) = rs_X7_of S x1 x2) (cWB dC dI cI cZ a (va_A (cW cI cZ a S) sz)) (va_A (cW cI cZ a S) sz)) (exX dC dI cI cZ a (va_A (cW cI cZ a S) sz) (rs_X7_of S x1 x2)) 1 6 (va_A (cW cI cZ a S) sz) := by
  refine vx_ofW (cc := cX7_of) (maxL := 3) (ret := (some .int)) (by decide) rfl ?_
  intro p e s m args below meth c s₁ B hml hnt hv
  obtain ⟨rfl, ⟨hsz, hP, hK, hD0⟩, hex⟩ := hv
  subst hsz
  have hD := hD0.self (sz := s.heap.size)
  have hl := lv_entry ([.ref (a 0), .int x1, .int x2]) (n := 3) (Nat.le_of_ble_eq_true rfl)
  rw [lg_entry_eq]
  generalize (lg_sl ([.ref (a 0), .int x1, .int x2]) ++ List.replicate (3 - (lg_sl ([.ref (a 0), .int x1, .int x2])).length) Slot.unset).toArray = ls at hl ⊢
  have hl : lv_has ls 3 [(0, .ref (a 0)), (1, .int x1), (2, .int x2)] := hl
  exact w_X7_of ⟨B.exec, B.bytes, B.returns, hml, findClass_of_methodNamed B.named, atoms_spec (ws := wsX7_of) B.pre, B.notSynchronized⟩ hK (fun q h => Or.inr h) hex htr hnt _ S x1 x2 hok rfl _ _ hP hD va_S.rf ls hl
abbrev rm_X7_failed : Room := { frames := 6, cells := 1, slots := 6, locals := 82 }
theorem xm_X7_failed_168 : ∀ w ∈ (vx_atS RX7 168 "java/lang/IndexOutOfBoundsException" ["java/lang/RuntimeException", "java/lang/Exception"]).filter goodWord, w ∈ wsX7_failed := by decide +kernel
theorem iX7_failed_X7 : ∀ w ∈ wsX70, w ∈ wsX7_failed := by decide +kernel
def rs_X7_failed_22 (S : St)  : Int32 × Int32 × St := (3, 0, S)
def ok_X7_failed_22 (S : St)  : Prop := True
set_option maxHeartbeats 4000000 in
set_option maxRecDepth 100000 in
theorem w_X7_failed_22 {p : Program} {l : Launch} {e : Env} {s : State} {m : MethodId} {args : Array Value} {below : List Frame} {meth : Method} {c : Code} {dC : Nat → ClassId} {dI : Nat → Nat → Nat} {cI cZ : ClassId} {a : Nat → Nat} {A : Nat → Prop} (C0 : Cx p s m args meth c RX7 cX7_failed (some .int) 3 wsX7_failed) (hK : va_K (dC, dI) vwCl (tI cI cZ) s) (hA : ∀ q, s.heap.size ≤ q → A q) (hex : exE A s) (htr : l.stackTraces = false) (hnt : ∀ x ∈ c.exceptionTable.toList, False) (Z : Int32 × Int32 × St) (S : St)  (hok : ok_X7_failed_22 S) (hZ : rs_X7_failed_22 S = Z) (H : Heap) (locs : List Loc) (hP : va_P (dC, dI) vwCl (cW cI cZ a S) H) (hD : va_D A (cW cI cZ a S)) (hS : va_S A s.heap H locs) (ls : Array Slot) (hl : lv_has ls 3 []) : W p l e rm_X7_failed s m args below meth c H locs 0 0 (vx_MQ below (va_Qi (fun (r : Int32) (u : St) => (0, r, u) = Z) (cWB dC dI cI cZ a A) A) (exX dC dI cI cZ a A Z) args s 1 6 A) (F0 m 22 ls []) := by
  obtain ⟨hx, hb, hr, hml, hown, hts, hlocks⟩ := id C0
  rw [ok_X7_failed_22] at hok
  rw [rs_X7_failed_22] at hZ
  obtain ⟨sa, hstr⟩ := hex.2.2.1 (176, "no such failure or what") (by decide)
  refine vx_throwS (names := ["java/lang/RuntimeException", "java/lang/Exception"]) hx hb htr hown (by decide +kernel) (by decide +kernel) (hts (.classLink RX7 164 "java/lang/IndexOutOfBoundsException") (by decide +kernel)) (hts (.initialized "java/lang/IndexOutOfBoundsException") (by decide +kernel)) hstr (vx_hat (B := .castable "java/lang/IndexOutOfBoundsException" "java/lang/IndexOutOfBoundsException" :: exD.map Cond.declares) (fun w h => hts w (xm_X7_failed_168 w h)) (by decide +kernel) (vx_c (va_Nw.use rfl (hex.2.2.2.1 "java/lang/IndexOutOfBoundsException" (by decide))) (exE.dc hex))) (by decide +kernel) hex.1 hex.2.1 hS (hl.1.trans hml.symm) dX7_failed_22 dX7_failed_25 dX7_failed_26 dX7_failed_28 dX7_failed_31 (fun x h => (hnt x h).elim) (Nat.le_of_ble_eq_true rfl) (Nat.le_of_ble_eq_true rfl) (Nat.le_of_ble_eq_true rfl) (Nat.le_of_ble_eq_true rfl) hlocks (fun t hvm hz hk9 => ⟨S, trivial, ⟨by decide, hZ, hP.kept (fun k q hq => hk9 q.1 (hP k q hq).lt), va_K.moved hvm hK, hD⟩, Nat.le_trans hS.1 hz, fun q h1 h2 => (hk9 q (Nat.lt_of_lt_of_le h1 hS.1)).trans (hS.2.1 q h1 h2)⟩) hS.2.2 (Nat.le_of_ble_eq_true rfl) (Nat.le_of_ble_eq_true rfl)
def rs_X7_failed_41 (S : St) (z0 : Int32) : Int32 × Int32 × St := (0, z0, S)
def ok_X7_failed_41 (S : St) (z0 : Int32) : Prop := True
set_option maxHeartbeats 4000000 in
set_option maxRecDepth 100000 in
theorem w_X7_failed_41 {p : Program} {l : Launch} {e : Env} {s : State} {m : MethodId} {args : Array Value} {below : List Frame} {meth : Method} {c : Code} {dC : Nat → ClassId} {dI : Nat → Nat → Nat} {cI cZ : ClassId} {a : Nat → Nat} {A : Nat → Prop} (C0 : Cx p s m args meth c RX7 cX7_failed (some .int) 3 wsX7_failed) (hK : va_K (dC, dI) vwCl (tI cI cZ) s) (hA : ∀ q, s.heap.size ≤ q → A q) (hex : exE A s) (htr : l.stackTraces = false) (hnt : ∀ x ∈ c.exceptionTable.toList, False) (Z : Int32 × Int32 × St) (S : St) (z0 : Int32) (hok : ok_X7_failed_41 S z0) (hZ : rs_X7_failed_41 S z0 = Z) (H : Heap) (locs : List Loc) (hP : va_P (dC, dI) vwCl (cW cI cZ a S) H) (hD : va_D A (cW cI cZ a S)) (hS : va_S A s.heap H locs) (ls : Array Slot) (hl : lv_has ls 3 []) : W p l e rm_X7_failed s m args below meth c H locs 0 0 (vx_MQ below (va_Qi (fun (r : Int32) (u : St) => (0, r, u) = Z) (cWB dC dI cI cZ a A) A) (exX dC dI cI cZ a A Z) args s 1 6 A) (F0 m 41 ls [.int z0]) := by
  obtain ⟨hx, hb, hr, hml, hown, hts, hlocks⟩ := id C0
  rw [ok_X7_failed_41] at hok
  rw [rs_X7_failed_41] at hZ
  refine vx_ret (W.widen (k := 1) (n := 6) (Nat.le_of_ble_eq_true rfl) (Nat.le_of_ble_eq_true rfl) ?_)
  exact W.iret (v := z0) hx hb hr (fun t ht hW => ⟨⟨z0, S, rfl, hZ, by rw [ht]; exact hP, va_K.moved hW.alike hK, hD⟩, hS.F ht⟩) hS.2.2 dX7_failed_41 hlocks
def rs_X7_failed_8 (S : St) (x1 : Int32) (x2 : Int32) (z0 : Int32) (z1 : Int32) : Int32 × Int32 × St := (if (rs_X7_isBelow z0 z1) = 0 then (rs_X7_failed_22 S) else (if (rs_X7_isBelow x2 4) = 0 then (rs_X7_failed_22 S) else (rs_X7_failed_41 (rs_X3_answer S x1 x2).2 ((rs_X3_answer S x1 x2).1))))
def ok_X7_failed_8 (S : St) (x1 : Int32) (x2 : Int32) (z0 : Int32) (z1 : Int32) : Prop := ((ok_X7_isBelow z0 z1) ∧ (if (rs_X7_isBelow z0 z1) = 0 then ok_X7_failed_22 S else ((ok_X7_isBelow x2 4) ∧ (if (rs_X7_isBelow x2 4) = 0 then ok_X7_failed_22 S else ((ok_X3_answer S x1 x2) ∧ ok_X7_failed_41 (rs_X3_answer S x1 x2).2 ((rs_X3_answer S x1 x2).1))))))
set_option maxHeartbeats 4000000 in
set_option maxRecDepth 100000 in
theorem w_X7_failed_8 {p : Program} {l : Launch} {e : Env} {s : State} {m : MethodId} {args : Array Value} {below : List Frame} {meth : Method} {c : Code} {dC : Nat → ClassId} {dI : Nat → Nat → Nat} {cI cZ : ClassId} {a : Nat → Nat} {A : Nat → Prop} (C0 : Cx p s m args meth c RX7 cX7_failed (some .int) 3 wsX7_failed) (hK : va_K (dC, dI) vwCl (tI cI cZ) s) (hA : ∀ q, s.heap.size ≤ q → A q) (hex : exE A s) (htr : l.stackTraces = false) (hnt : ∀ x ∈ c.exceptionTable.toList, False) (Z : Int32 × Int32 × St) (S : St) (x1 : Int32) (x2 : Int32) (z0 : Int32) (z1 : Int32) (hok : ok_X7_failed_8 S x1 x2 z0 z1) (hZ : rs_X7_failed_8 S x1 x2 z0 z1 = Z) (H : Heap) (locs : List Loc) (hP : va_P (dC, dI) vwCl (cW cI cZ a S) H) (hD : va_D A (cW cI cZ a S)) (hS : va_S A s.heap H locs) (ls : Array Slot) (hl : lv_has ls 3 [(0, .ref (a 0)), (1, .int x1), (2, .int x2)]) : W p l e rm_X7_failed s m args below meth c H locs 0 0 (vx_MQ below (va_Qi (fun (r : Int32) (u : St) => (0, r, u) = Z) (cWB dC dI cI cZ a A) A) (exX dC dI cI cZ a A Z) args s 1 6 A) (F0 m 8 ls [.int z1, .int z0]) := by
  obtain ⟨hx, hb, hr, hml, hown, hts, hlocks⟩ := id C0
  rw [ok_X7_failed_8] at hok
  rw [rs_X7_failed_8] at hZ
  obtain ⟨k_1, hok⟩ := hok
  have hFc := wFr hS hA
  refine va_calli (va_runS (As := [.int z0, .int z1]) (rest := []) ⟨hx, hb, hml, hown, hts⟩ (c_X7_isBelow l H.size z0 z1 k_1) (va_cwS 2 hts gX7_failed_X7_isBelow rfl rfl rfl (by decide +kernel) ⟨Nat.le_of_ble_eq_true rfl, Nat.le_of_ble_eq_true rfl⟩) ⟨fun a9 U g9 mk9 q9 => q9, fun U hU hW => ⟨rfl, congrArg Array.size hU⟩⟩ rfl rfl hl.1 rfl (lv_room (Nat.le_of_ble_eq_true rfl)) dX7_failed_8 ⟨Nat.zero_le _, Nat.zero_le _⟩) hS (fun q _ h => hFc q h) hFc (fun r u t H1 locs ht hvm hw hB hz1 hk1 hS => ?_)
  have hP := wKp hP hk1
  subst hw
  generalize H1 = H at hP hS ⊢
  refine lv_if_eq (tgt := 22) hx hb dX7_failed_11 (by decide) (fun c_2 => ?_) (fun c_2 => ?_)
  · have hok := okT hok c_2
    have hZ := rsT hZ c_2
    exact w_X7_failed_22 C0 hK hA hex htr hnt Z S hok hZ _ _ hP hD hS _ (lv_sub hl [] rfl)
  · have hok := okF hok c_2
    have hZ := rsF hZ c_2
    refine lv_iload_n hx hb dX7_failed_14 rfl (lv_at hl 2 rfl) ?_
    refine lv_iconst (v := 4) hx hb dX7_failed_15 (by decide) ?_
    obtain ⟨k_3, hok⟩ := hok
    have hFc := wFr hS hA
    refine va_calli (va_runS (As := [.int x2, .int 4]) (rest := []) ⟨hx, hb, hml, hown, hts⟩ (c_X7_isBelow l H.size x2 4 k_3) (va_cwS 2 hts gX7_failed_X7_isBelow rfl rfl rfl (by decide +kernel) ⟨Nat.le_of_ble_eq_true rfl, Nat.le_of_ble_eq_true rfl⟩) ⟨fun a9 U g9 mk9 q9 => q9, fun U hU hW => ⟨rfl, congrArg Array.size hU⟩⟩ rfl rfl hl.1 rfl (lv_room (Nat.le_of_ble_eq_true rfl)) dX7_failed_16 ⟨Nat.zero_le _, Nat.zero_le _⟩) hS (fun q _ h => hFc q h) hFc (fun r u t H1 locs ht hvm hw hB hz1 hk1 hS => ?_)
    have hP := wKp hP hk1
    subst hw
    generalize H1 = H at hP hS ⊢
    refine lv_if_ne (tgt := 32) hx hb dX7_failed_19 (by decide) (fun c_4 => ?_) (fun c_4 => ?_)
    · have hok := okF hok c_4
      have hZ := rsF hZ c_4
      refine lv_aload_n hx hb dX7_failed_32 rfl (lv_at hl 0 rfl) ?_
      refine va_get (D := (dC, dI)) (ci := 6) (v := .ref (a 24)) (C := RX7) (T := TX7) (N := 8) hx hb hts iX7_failed_X7 hown hK hP 0 rfl rfl 6 (by decide) (hts (.fieldLink RX7 47 "RiskHouse" "failures" "LRiskHouse$Failures;") (by decide +kernel)) (fun _ h9 => h9) rfl dX7_failed_33 ?_
      refine lv_iload_n hx hb dX7_failed_36 rfl (lv_at hl 1 rfl) ?_
      refine lv_iload_n hx hb dX7_failed_37 rfl (lv_at hl 2 rfl) ?_
      obtain ⟨k_5, hok⟩ := hok
      have hFc := wFw (w := cW cI cZ a S) hD hS hA
      refine va_calli (va_runV (As := [.int x1, .int x2]) (rest := []) ⟨hx, hb, hml, hown, hts⟩ (c_X3_answer l dC dI cI cZ a H.size S x1 x2 k_5) (cwV 2 hts gX7_failed_X3_answer rfl rfl rfl (by decide +kernel) ⟨Nat.le_of_ble_eq_true rfl, Nat.le_of_ble_eq_true rfl⟩) ⟨wBl, va_recv hK hP (ci := 2) (q0 := 24) rfl rfl, fun U hU hW => ⟨rfl, by rw [hU], by rw [hU]; exact hP, va_K.moved hW.alike hK, hD.weaken (fun _ _ _ _ => trivial)⟩⟩ rfl rfl hl.1 rfl (lv_room (Nat.le_of_ble_eq_true rfl)) dX7_failed_38 ⟨Nat.zero_le _, Nat.zero_le _⟩) hS (fun q _ h => hFc q h) hFc (fun r u t H1 locs ht hvm hw hB hz1 hk1 hS => ?_)
      obtain ⟨hP, hD⟩ := wJn ht hFc hB.1 hB.2.2
      have e1 : r = (rs_X3_answer S x1 x2).1 := congrArg Prod.fst hw
      have e2 : u = (rs_X3_answer S x1 x2).2 := congrArg Prod.snd hw
      rw [e1]
      rw [e2] at hP hD
      generalize H1 = H at hP hS ⊢
      exact w_X7_failed_41 C0 hK hA hex htr hnt Z (rs_X3_answer S x1 x2).2 ((rs_X3_answer S x1 x2).1) hok hZ _ _ hP hD hS _ (lv_sub hl [] rfl)
    · have hok := okT hok c_4
      have hZ := rsT hZ c_4
      exact w_X7_failed_22 C0 hK hA hex htr hnt Z S hok hZ _ _ hP hD hS _ (lv_sub hl [] rfl)
def rs_X7_failed (S : St) (x1 : Int32) (x2 : Int32) : Int32 × Int32 × St := (rs_X7_failed_8 (rs_X3_kept S).2 x1 x2 x1 ((rs_X3_kept S).1))
def ok_X7_failed (S : St) (x1 : Int32) (x2 : Int32) : Prop := ((ok_X3_kept S ) ∧ ok_X7_failed_8 (rs_X3_kept S).2 x1 x2 x1 ((rs_X3_kept S).1))
set_option maxHeartbeats 4000000 in
set_option maxRecDepth 100000 in
theorem w_X7_failed {p : Program} {l : Launch} {e : Env} {s : State} {m : MethodId} {args : Array Value} {below : List Frame} {meth : Method} {c : Code} {dC : Nat → ClassId} {dI : Nat → Nat → Nat} {cI cZ : ClassId} {a : Nat → Nat} {A : Nat → Prop} (C0 : Cx p s m args meth c RX7 cX7_failed (some .int) 3 wsX7_failed) (hK : va_K (dC, dI) vwCl (tI cI cZ) s) (hA : ∀ q, s.heap.size ≤ q → A q) (hex : exE A s) (htr : l.stackTraces = false) (hnt : ∀ x ∈ c.exceptionTable.toList, False) (Z : Int32 × Int32 × St) (S : St) (x1 : Int32) (x2 : Int32) (hok : ok_X7_failed S x1 x2) (hZ : rs_X7_failed S x1 x2 = Z) (H : Heap) (locs : List Loc) (hP : va_P (dC, dI) vwCl (cW cI cZ a S) H) (hD : va_D A (cW cI cZ a S)) (hS : va_S A s.heap H locs) (ls : Array Slot) (hl : lv_has ls 3 [(0, .ref (a 0)), (1, .int x1), (2, .int x2)]) : W p l e rm_X7_failed s m args below meth c H locs 0 0 (vx_MQ below (va_Qi (fun (r : Int32) (u : St) => (0, r, u) = Z) (cWB dC dI cI cZ a A) A) (exX dC dI cI cZ a A Z) args s 1 6 A) (F0 m 0 ls []) := by
  obtain ⟨hx, hb, hr, hml, hown, hts, hlocks⟩ := id C0
  rw [ok_X7_failed] at hok
  rw [rs_X7_failed] at hZ
  refine lv_iload_n hx hb dX7_failed_0 rfl (lv_at hl 1 rfl) ?_
  refine lv_aload_n hx hb dX7_failed_1 rfl (lv_at hl 0 rfl) ?_
  refine va_get (D := (dC, dI)) (ci := 6) (v := .ref (a 24)) (C := RX7) (T := TX7) (N := 8) hx hb hts iX7_failed_X7 hown hK hP 0 rfl rfl 6 (by decide) (hts (.fieldLink RX7 47 "RiskHouse" "failures" "LRiskHouse$Failures;") (by decide +kernel)) (fun _ h9 => h9) rfl dX7_failed_2 ?_
  obtain ⟨k_1, hok⟩ := hok
  have hFc := wFw (w := cW cI cZ a S) hD hS hA
  refine va_calli (va_runV (As := []) (rest := [.int x1]) ⟨hx, hb, hml, hown, hts⟩ (c_X3_kept l dC dI cI cZ a H.size S  k_1) (cwV 0 hts gX7_failed_X3_kept rfl rfl rfl (by decide +kernel) ⟨Nat.le_of_ble_eq_true rfl, Nat.le_of_ble_eq_true rfl⟩) ⟨wBl, va_recv hK hP (ci := 2) (q0 := 24) rfl rfl, fun U hU hW => ⟨rfl, by rw [hU], by rw [hU]; exact hP, va_K.moved hW.alike hK, hD.weaken (fun _ _ _ _ => trivial)⟩⟩ rfl rfl hl.1 rfl (lv_room (Nat.le_of_ble_eq_true rfl)) dX7_failed_5 ⟨Nat.zero_le _, Nat.zero_le _⟩) hS (fun q _ h => hFc q h) hFc (fun r u t H1 locs ht hvm hw hB hz1 hk1 hS => ?_)
  obtain ⟨hP, hD⟩ := wJn ht hFc hB.1 hB.2.2
  have e1 : r = (rs_X3_kept S).1 := congrArg Prod.fst hw
  have e2 : u = (rs_X3_kept S).2 := congrArg Prod.snd hw
  rw [e1]
  rw [e2] at hP hD
  generalize H1 = H at hP hS ⊢
  exact w_X7_failed_8 C0 hK hA hex htr hnt Z (rs_X3_kept S).2 x1 x2 x1 ((rs_X3_kept S).1) hok hZ _ _ hP hD hS _ (lv_sub hl [0, 1, 2] rfl)
set_option maxHeartbeats 4000000 in
set_option maxRecDepth 100000 in
theorem c_X7_failed (l : Launch) (htr : l.stackTraces = false) (dC : Nat → ClassId) (dI : Nat → Nat → Nat) (cI cZ : ClassId) (a : Nat → Nat) (sz : Nat) (S : St) (x1 : Int32) (x2 : Int32) (hok : ok_X7_failed S x1 x2) : vx_Met l yX7_failed wsX7_failed rm_X7_failed (va_Pc [.ref (a 0), .int x1, .int x2] (fun U => cWP dC dI cI cZ a sz S U ∧ exE (va_A (cW cI cZ a S) sz) U)) (va_Qi (fun (r : Int32) (u : St) => (0, r, u) = rs_X7_failed S x1 x2) (cWB dC dI cI cZ a (va_A (cW cI cZ a S) sz)) (va_A (cW cI cZ a S) sz)) (exX dC dI cI cZ a (va_A (cW cI cZ a S) sz) (rs_X7_failed S x1 x2)) 1 6 (va_A (cW cI cZ a S) sz) := by
  refine vx_ofW (cc := cX7_failed) (maxL := 3) (ret := (some .int)) (by decide) rfl ?_
  intro p e s m args below meth c s₁ B hml hnt hv
  obtain ⟨rfl, ⟨hsz, hP, hK, hD0⟩, hex⟩ := hv
  subst hsz
  have hD := hD0.self (sz := s.heap.size)
  have hl := lv_entry ([.ref (a 0), .int x1, .int x2]) (n := 3) (Nat.le_of_ble_eq_true rfl)
  rw [lg_entry_eq]
  generalize (lg_sl ([.ref (a 0), .int x1, .int x2]) ++ List.replicate (3 - (lg_sl ([.ref (a 0), .int x1, .int x2])).length) Slot.unset).toArray = ls at hl ⊢
  have hl : lv_has ls 3 [(0, .ref (a 0)), (1, .int x1), (2, .int x2)] := hl
  exact w_X7_failed ⟨B.exec, B.bytes, B.returns, hml, findClass_of_methodNamed B.named, atoms_spec (ws := wsX7_failed) B.pre, B.notSynchronized⟩ hK (fun q h => Or.inr h) hex htr hnt _ S x1 x2 hok rfl _ _ hP hD va_S.rf ls hl
abbrev rm_X7_edition : Room := { frames := 6, cells := 1, slots := 6, locals := 82 }
theorem xm_X7_edition_168 : ∀ w ∈ (vx_atS RX7 168 "java/lang/IndexOutOfBoundsException" ["java/lang/RuntimeException", "java/lang/Exception"]).filter goodWord, w ∈ wsX7_edition := by decide +kernel
theorem iX7_edition_X7 : ∀ w ∈ wsX70, w ∈ wsX7_edition := by decide +kernel
def rs_X7_edition_16 (S : St)  : Int32 × Int32 × St := (3, 0, S)
def ok_X7_edition_16 (S : St)  : Prop := True
set_option maxHeartbeats 4000000 in
set_option maxRecDepth 100000 in
theorem w_X7_edition_16 {p : Program} {l : Launch} {e : Env} {s : State} {m : MethodId} {args : Array Value} {below : List Frame} {meth : Method} {c : Code} {dC : Nat → ClassId} {dI : Nat → Nat → Nat} {cI cZ : ClassId} {a : Nat → Nat} {A : Nat → Prop} (C0 : Cx p s m args meth c RX7 cX7_edition (some .int) 3 wsX7_edition) (hK : va_K (dC, dI) vwCl (tI cI cZ) s) (hA : ∀ q, s.heap.size ≤ q → A q) (hex : exE A s) (htr : l.stackTraces = false) (hnt : ∀ x ∈ c.exceptionTable.toList, False) (Z : Int32 × Int32 × St) (S : St)  (hok : ok_X7_edition_16 S) (hZ : rs_X7_edition_16 S = Z) (H : Heap) (locs : List Loc) (hP : va_P (dC, dI) vwCl (cW cI cZ a S) H) (hD : va_D A (cW cI cZ a S)) (hS : va_S A s.heap H locs) (ls : Array Slot) (hl : lv_has ls 3 []) : W p l e rm_X7_edition s m args below meth c H locs 0 0 (vx_MQ below (va_Qi (fun (r : Int32) (u : St) => (0, r, u) = Z) (cWB dC dI cI cZ a A) A) (exX dC dI cI cZ a A Z) args s 1 6 A) (F0 m 16 ls []) := by
  obtain ⟨hx, hb, hr, hml, hown, hts, hlocks⟩ := id C0
  rw [ok_X7_edition_16] at hok
  rw [rs_X7_edition_16] at hZ
  obtain ⟨sa, hstr⟩ := hex.2.2.1 (179, "no such edition or what") (by decide)
  refine vx_throwS (names := ["java/lang/RuntimeException", "java/lang/Exception"]) hx hb htr hown (by decide +kernel) (by decide +kernel) (hts (.classLink RX7 164 "java/lang/IndexOutOfBoundsException") (by decide +kernel)) (hts (.initialized "java/lang/IndexOutOfBoundsException") (by decide +kernel)) hstr (vx_hat (B := .castable "java/lang/IndexOutOfBoundsException" "java/lang/IndexOutOfBoundsException" :: exD.map Cond.declares) (fun w h => hts w (xm_X7_edition_168 w h)) (by decide +kernel) (vx_c (va_Nw.use rfl (hex.2.2.2.1 "java/lang/IndexOutOfBoundsException" (by decide))) (exE.dc hex))) (by decide +kernel) hex.1 hex.2.1 hS (hl.1.trans hml.symm) dX7_edition_16 dX7_edition_19 dX7_edition_20 dX7_edition_22 dX7_edition_25 (fun x h => (hnt x h).elim) (Nat.le_of_ble_eq_true rfl) (Nat.le_of_ble_eq_true rfl) (Nat.le_of_ble_eq_true rfl) (Nat.le_of_ble_eq_true rfl) hlocks (fun t hvm hz hk9 => ⟨S, trivial, ⟨by decide, hZ, hP.kept (fun k q hq => hk9 q.1 (hP k q hq).lt), va_K.moved hvm hK, hD⟩, Nat.le_trans hS.1 hz, fun q h1 h2 => (hk9 q (Nat.lt_of_lt_of_le h1 hS.1)).trans (hS.2.1 q h1 h2)⟩) hS.2.2 (Nat.le_of_ble_eq_true rfl) (Nat.le_of_ble_eq_true rfl)
def rs_X7_edition_35 (S : St) (z0 : Int32) : Int32 × Int32 × St := (0, z0, S)
def ok_X7_edition_35 (S : St) (z0 : Int32) : Prop := True
set_option maxHeartbeats 4000000 in
set_option maxRecDepth 100000 in
theorem w_X7_edition_35 {p : Program} {l : Launch} {e : Env} {s : State} {m : MethodId} {args : Array Value} {below : List Frame} {meth : Method} {c : Code} {dC : Nat → ClassId} {dI : Nat → Nat → Nat} {cI cZ : ClassId} {a : Nat → Nat} {A : Nat → Prop} (C0 : Cx p s m args meth c RX7 cX7_edition (some .int) 3 wsX7_edition) (hK : va_K (dC, dI) vwCl (tI cI cZ) s) (hA : ∀ q, s.heap.size ≤ q → A q) (hex : exE A s) (htr : l.stackTraces = false) (hnt : ∀ x ∈ c.exceptionTable.toList, False) (Z : Int32 × Int32 × St) (S : St) (z0 : Int32) (hok : ok_X7_edition_35 S z0) (hZ : rs_X7_edition_35 S z0 = Z) (H : Heap) (locs : List Loc) (hP : va_P (dC, dI) vwCl (cW cI cZ a S) H) (hD : va_D A (cW cI cZ a S)) (hS : va_S A s.heap H locs) (ls : Array Slot) (hl : lv_has ls 3 []) : W p l e rm_X7_edition s m args below meth c H locs 0 0 (vx_MQ below (va_Qi (fun (r : Int32) (u : St) => (0, r, u) = Z) (cWB dC dI cI cZ a A) A) (exX dC dI cI cZ a A Z) args s 1 6 A) (F0 m 35 ls [.int z0]) := by
  obtain ⟨hx, hb, hr, hml, hown, hts, hlocks⟩ := id C0
  rw [ok_X7_edition_35] at hok
  rw [rs_X7_edition_35] at hZ
  refine vx_ret (W.widen (k := 1) (n := 6) (Nat.le_of_ble_eq_true rfl) (Nat.le_of_ble_eq_true rfl) ?_)
  exact W.iret (v := z0) hx hb hr (fun t ht hW => ⟨⟨z0, S, rfl, hZ, by rw [ht]; exact hP, va_K.moved hW.alike hK, hD⟩, hS.F ht⟩) hS.2.2 dX7_edition_35 hlocks
def rs_X7_edition (S : St) (x1 : Int32) (x2 : Int32) : Int32 × Int32 × St := (if (rs_X7_isBelow x1 4) = 0 then (rs_X7_edition_16 S) else (if (rs_X7_isBelow x2 3) = 0 then (rs_X7_edition_16 S) else (rs_X7_edition_35 (rs_X2_answer S x1 x2).2 ((rs_X2_answer S x1 x2).1))))
def ok_X7_edition (S : St) (x1 : Int32) (x2 : Int32) : Prop := ((ok_X7_isBelow x1 4) ∧ (if (rs_X7_isBelow x1 4) = 0 then ok_X7_edition_16 S else ((ok_X7_isBelow x2 3) ∧ (if (rs_X7_isBelow x2 3) = 0 then ok_X7_edition_16 S else ((ok_X2_answer S x1 x2) ∧ ok_X7_edition_35 (rs_X2_answer S x1 x2).2 ((rs_X2_answer S x1 x2).1))))))
set_option maxHeartbeats 4000000 in
set_option maxRecDepth 100000 in
theorem w_X7_edition {p : Program} {l : Launch} {e : Env} {s : State} {m : MethodId} {args : Array Value} {below : List Frame} {meth : Method} {c : Code} {dC : Nat → ClassId} {dI : Nat → Nat → Nat} {cI cZ : ClassId} {a : Nat → Nat} {A : Nat → Prop} (C0 : Cx p s m args meth c RX7 cX7_edition (some .int) 3 wsX7_edition) (hK : va_K (dC, dI) vwCl (tI cI cZ) s) (hA : ∀ q, s.heap.size ≤ q → A q) (hex : exE A s) (htr : l.stackTraces = false) (hnt : ∀ x ∈ c.exceptionTable.toList, False) (Z : Int32 × Int32 × St) (S : St) (x1 : Int32) (x2 : Int32) (hok : ok_X7_edition S x1 x2) (hZ : rs_X7_edition S x1 x2 = Z) (H : Heap) (locs : List Loc) (hP : va_P (dC, dI) vwCl (cW cI cZ a S) H) (hD : va_D A (cW cI cZ a S)) (hS : va_S A s.heap H locs) (ls : Array Slot) (hl : lv_has ls 3 [(0, .ref (a 0)), (1, .int x1), (2, .int x2)]) : W p l e rm_X7_edition s m args below meth c H locs 0 0 (vx_MQ below (va_Qi (fun (r : Int32) (u : St) => (0, r, u) = Z) (cWB dC dI cI cZ a A) A) (exX dC dI cI cZ a A Z) args s 1 6 A) (F0 m 0 ls []) := by
  obtain ⟨hx, hb, hr, hml, hown, hts, hlocks⟩ := id C0
  rw [ok_X7_edition] at hok
  rw [rs_X7_edition] at hZ
  refine lv_iload_n hx hb dX7_edition_0 rfl (lv_at hl 1 rfl) ?_
  refine lv_iconst (v := 4) hx hb dX7_edition_1 (by decide) ?_
  obtain ⟨k_1, hok⟩ := hok
  have hFc := wFr hS hA
  refine va_calli (va_runS (As := [.int x1, .int 4]) (rest := []) ⟨hx, hb, hml, hown, hts⟩ (c_X7_isBelow l H.size x1 4 k_1) (va_cwS 2 hts gX7_edition_X7_isBelow rfl rfl rfl (by decide +kernel) ⟨Nat.le_of_ble_eq_true rfl, Nat.le_of_ble_eq_true rfl⟩) ⟨fun a9 U g9 mk9 q9 => q9, fun U hU hW => ⟨rfl, congrArg Array.size hU⟩⟩ rfl rfl hl.1 rfl (lv_room (Nat.le_of_ble_eq_true rfl)) dX7_edition_2 ⟨Nat.zero_le _, Nat.zero_le _⟩) hS (fun q _ h => hFc q h) hFc (fun r u t H1 locs ht hvm hw hB hz1 hk1 hS => ?_)
  have hP := wKp hP hk1
  subst hw
  generalize H1 = H at hP hS ⊢
  refine lv_if_eq (tgt := 16) hx hb dX7_edition_5 (by decide) (fun c_2 => ?_) (fun c_2 => ?_)
  · have hok := okT hok c_2
    have hZ := rsT hZ c_2
    exact w_X7_edition_16 C0 hK hA hex htr hnt Z S hok hZ _ _ hP hD hS _ (lv_sub hl [] rfl)
  · have hok := okF hok c_2
    have hZ := rsF hZ c_2
    refine lv_iload_n hx hb dX7_edition_8 rfl (lv_at hl 2 rfl) ?_
    refine lv_iconst (v := 3) hx hb dX7_edition_9 (by decide) ?_
    obtain ⟨k_3, hok⟩ := hok
    have hFc := wFr hS hA
    refine va_calli (va_runS (As := [.int x2, .int 3]) (rest := []) ⟨hx, hb, hml, hown, hts⟩ (c_X7_isBelow l H.size x2 3 k_3) (va_cwS 2 hts gX7_edition_X7_isBelow rfl rfl rfl (by decide +kernel) ⟨Nat.le_of_ble_eq_true rfl, Nat.le_of_ble_eq_true rfl⟩) ⟨fun a9 U g9 mk9 q9 => q9, fun U hU hW => ⟨rfl, congrArg Array.size hU⟩⟩ rfl rfl hl.1 rfl (lv_room (Nat.le_of_ble_eq_true rfl)) dX7_edition_10 ⟨Nat.zero_le _, Nat.zero_le _⟩) hS (fun q _ h => hFc q h) hFc (fun r u t H1 locs ht hvm hw hB hz1 hk1 hS => ?_)
    have hP := wKp hP hk1
    subst hw
    generalize H1 = H at hP hS ⊢
    refine lv_if_ne (tgt := 26) hx hb dX7_edition_13 (by decide) (fun c_4 => ?_) (fun c_4 => ?_)
    · have hok := okF hok c_4
      have hZ := rsF hZ c_4
      refine lv_aload_n hx hb dX7_edition_26 rfl (lv_at hl 0 rfl) ?_
      refine va_get (D := (dC, dI)) (ci := 6) (v := .ref (a 11)) (C := RX7) (T := TX7) (N := 8) hx hb hts iX7_edition_X7 hown hK hP 0 rfl rfl 3 (by decide) (hts (.fieldLink RX7 26 "RiskHouse" "editions" "LRiskHouse$Editions;") (by decide +kernel)) (fun _ h9 => h9) rfl dX7_edition_27 ?_
      refine lv_iload_n hx hb dX7_edition_30 rfl (lv_at hl 1 rfl) ?_
      refine lv_iload_n hx hb dX7_edition_31 rfl (lv_at hl 2 rfl) ?_
      obtain ⟨k_5, hok⟩ := hok
      have hFc := wFw (w := cW cI cZ a S) hD hS hA
      refine va_calli (va_runV (As := [.int x1, .int x2]) (rest := []) ⟨hx, hb, hml, hown, hts⟩ (c_X2_answer l dC dI cI cZ a H.size S x1 x2 k_5) (cwV 2 hts gX7_edition_X2_answer rfl rfl rfl (by decide +kernel) ⟨Nat.le_of_ble_eq_true rfl, Nat.le_of_ble_eq_true rfl⟩) ⟨wBl, va_recv hK hP (ci := 1) (q0 := 11) rfl rfl, fun U hU hW => ⟨rfl, by rw [hU], by rw [hU]; exact hP, va_K.moved hW.alike hK, hD.weaken (fun _ _ _ _ => trivial)⟩⟩ rfl rfl hl.1 rfl (lv_room (Nat.le_of_ble_eq_true rfl)) dX7_edition_32 ⟨Nat.zero_le _, Nat.zero_le _⟩) hS (fun q _ h => hFc q h) hFc (fun r u t H1 locs ht hvm hw hB hz1 hk1 hS => ?_)
      obtain ⟨hP, hD⟩ := wJn ht hFc hB.1 hB.2.2
      have e1 : r = (rs_X2_answer S x1 x2).1 := congrArg Prod.fst hw
      have e2 : u = (rs_X2_answer S x1 x2).2 := congrArg Prod.snd hw
      rw [e1]
      rw [e2] at hP hD
      generalize H1 = H at hP hS ⊢
      exact w_X7_edition_35 C0 hK hA hex htr hnt Z (rs_X2_answer S x1 x2).2 ((rs_X2_answer S x1 x2).1) hok hZ _ _ hP hD hS _ (lv_sub hl [] rfl)
    · have hok := okT hok c_4
      have hZ := rsT hZ c_4
      exact w_X7_edition_16 C0 hK hA hex htr hnt Z S hok hZ _ _ hP hD hS _ (lv_sub hl [] rfl)
set_option maxHeartbeats 4000000 in
set_option maxRecDepth 100000 in
theorem c_X7_edition (l : Launch) (htr : l.stackTraces = false) (dC : Nat → ClassId) (dI : Nat → Nat → Nat) (cI cZ : ClassId) (a : Nat → Nat) (sz : Nat) (S : St) (x1 : Int32) (x2 : Int32) (hok : ok_X7_edition S x1 x2) : vx_Met l yX7_edition wsX7_edition rm_X7_edition (va_Pc [.ref (a 0), .int x1, .int x2] (fun U => cWP dC dI cI cZ a sz S U ∧ exE (va_A (cW cI cZ a S) sz) U)) (va_Qi (fun (r : Int32) (u : St) => (0, r, u) = rs_X7_edition S x1 x2) (cWB dC dI cI cZ a (va_A (cW cI cZ a S) sz)) (va_A (cW cI cZ a S) sz)) (exX dC dI cI cZ a (va_A (cW cI cZ a S) sz) (rs_X7_edition S x1 x2)) 1 6 (va_A (cW cI cZ a S) sz) := by
  refine vx_ofW (cc := cX7_edition) (maxL := 3) (ret := (some .int)) (by decide) rfl ?_
  intro p e s m args below meth c s₁ B hml hnt hv
  obtain ⟨rfl, ⟨hsz, hP, hK, hD0⟩, hex⟩ := hv
  subst hsz
  have hD := hD0.self (sz := s.heap.size)
  have hl := lv_entry ([.ref (a 0), .int x1, .int x2]) (n := 3) (Nat.le_of_ble_eq_true rfl)
  rw [lg_entry_eq]
  generalize (lg_sl ([.ref (a 0), .int x1, .int x2]) ++ List.replicate (3 - (lg_sl ([.ref (a 0), .int x1, .int x2])).length) Slot.unset).toArray = ls at hl ⊢
  have hl : lv_has ls 3 [(0, .ref (a 0)), (1, .int x1), (2, .int x2)] := hl
  exact w_X7_edition ⟨B.exec, B.bytes, B.returns, hml, findClass_of_methodNamed B.named, atoms_spec (ws := wsX7_edition) B.pre, B.notSynchronized⟩ hK (fun q h => Or.inr h) hex htr hnt _ S x1 x2 hok rfl _ _ hP hD va_S.rf ls hl
abbrev rm_X7_look : Room := { frames := 6, cells := 1, slots := 6, locals := 82 }
theorem xm_X7_look_168 : ∀ w ∈ (vx_atS RX7 168 "java/lang/IndexOutOfBoundsException" ["java/lang/RuntimeException", "java/lang/Exception"]).filter goodWord, w ∈ wsX7_look := by decide +kernel
theorem iX7_look_X5 : ∀ w ∈ wsX50, w ∈ wsX7_look := by decide +kernel
theorem iX7_look_X7 : ∀ w ∈ wsX70, w ∈ wsX7_look := by decide +kernel
def rs_X7_look_22 (S : St)  : Int32 × Int32 × St := (3, 0, S)
def ok_X7_look_22 (S : St)  : Prop := True
set_option maxHeartbeats 4000000 in
set_option maxRecDepth 100000 in
theorem w_X7_look_22 {p : Program} {l : Launch} {e : Env} {s : State} {m : MethodId} {args : Array Value} {below : List Frame} {meth : Method} {c : Code} {dC : Nat → ClassId} {dI : Nat → Nat → Nat} {cI cZ : ClassId} {a : Nat → Nat} {A : Nat → Prop} (C0 : Cx p s m args meth c RX7 cX7_look (some .int) 3 wsX7_look) (hK : va_K (dC, dI) vwCl (tI cI cZ) s) (hA : ∀ q, s.heap.size ≤ q → A q) (hex : exE A s) (htr : l.stackTraces = false) (hnt : ∀ x ∈ c.exceptionTable.toList, False) (Z : Int32 × Int32 × St) (S : St)  (hok : ok_X7_look_22 S) (hZ : rs_X7_look_22 S = Z) (H : Heap) (locs : List Loc) (hP : va_P (dC, dI) vwCl (cW cI cZ a S) H) (hD : va_D A (cW cI cZ a S)) (hS : va_S A s.heap H locs) (ls : Array Slot) (hl : lv_has ls 3 []) : W p l e rm_X7_look s m args below meth c H locs 0 0 (vx_MQ below (va_Qi (fun (r : Int32) (u : St) => (0, r, u) = Z) (cWB dC dI cI cZ a A) A) (exX dC dI cI cZ a A Z) args s 1 6 A) (F0 m 22 ls []) := by
  obtain ⟨hx, hb, hr, hml, hown, hts, hlocks⟩ := id C0
  rw [ok_X7_look_22] at hok
  rw [rs_X7_look_22] at hZ
  obtain ⟨sa, hstr⟩ := hex.2.2.1 (182, "no such rule or what") (by decide)
  refine vx_throwS (names := ["java/lang/RuntimeException", "java/lang/Exception"]) hx hb htr hown (by decide +kernel) (by decide +kernel) (hts (.classLink RX7 164 "java/lang/IndexOutOfBoundsException") (by decide +kernel)) (hts (.initialized "java/lang/IndexOutOfBoundsException") (by decide +kernel)) hstr (vx_hat (B := .castable "java/lang/IndexOutOfBoundsException" "java/lang/IndexOutOfBoundsException" :: exD.map Cond.declares) (fun w h => hts w (xm_X7_look_168 w h)) (by decide +kernel) (vx_c (va_Nw.use rfl (hex.2.2.2.1 "java/lang/IndexOutOfBoundsException" (by decide))) (exE.dc hex))) (by decide +kernel) hex.1 hex.2.1 hS (hl.1.trans hml.symm) dX7_look_22 dX7_look_25 dX7_look_26 dX7_look_28 dX7_look_31 (fun x h => (hnt x h).elim) (Nat.le_of_ble_eq_true rfl) (Nat.le_of_ble_eq_true rfl) (Nat.le_of_ble_eq_true rfl) (Nat.le_of_ble_eq_true rfl) hlocks (fun t hvm hz hk9 => ⟨S, trivial, ⟨by decide, hZ, hP.kept (fun k q hq => hk9 q.1 (hP k q hq).lt), va_K.moved hvm hK, hD⟩, Nat.le_trans hS.1 hz, fun q h1 h2 => (hk9 q (Nat.lt_of_lt_of_le h1 hS.1)).trans (hS.2.1 q h1 h2)⟩) hS.2.2 (Nat.le_of_ble_eq_true rfl) (Nat.le_of_ble_eq_true rfl)
def rs_X7_look_41 (S : St) (z0 : Int32) : Int32 × Int32 × St := (0, z0, S)
def ok_X7_look_41 (S : St) (z0 : Int32) : Prop := True
set_option maxHeartbeats 4000000 in
set_option maxRecDepth 100000 in
theorem w_X7_look_41 {p : Program} {l : Launch} {e : Env} {s : State} {m : MethodId} {args : Array Value} {below : List Frame} {meth : Method} {c : Code} {dC : Nat → ClassId} {dI : Nat → Nat → Nat} {cI cZ : ClassId} {a : Nat → Nat} {A : Nat → Prop} (C0 : Cx p s m args meth c RX7 cX7_look (some .int) 3 wsX7_look) (hK : va_K (dC, dI) vwCl (tI cI cZ) s) (hA : ∀ q, s.heap.size ≤ q → A q) (hex : exE A s) (htr : l.stackTraces = false) (hnt : ∀ x ∈ c.exceptionTable.toList, False) (Z : Int32 × Int32 × St) (S : St) (z0 : Int32) (hok : ok_X7_look_41 S z0) (hZ : rs_X7_look_41 S z0 = Z) (H : Heap) (locs : List Loc) (hP : va_P (dC, dI) vwCl (cW cI cZ a S) H) (hD : va_D A (cW cI cZ a S)) (hS : va_S A s.heap H locs) (ls : Array Slot) (hl : lv_has ls 3 []) : W p l e rm_X7_look s m args below meth c H locs 0 0 (vx_MQ below (va_Qi (fun (r : Int32) (u : St) => (0, r, u) = Z) (cWB dC dI cI cZ a A) A) (exX dC dI cI cZ a A Z) args s 1 6 A) (F0 m 41 ls [.int z0]) := by
  obtain ⟨hx, hb, hr, hml, hown, hts, hlocks⟩ := id C0
  rw [ok_X7_look_41] at hok
  rw [rs_X7_look_41] at hZ
  refine vx_ret (W.widen (k := 1) (n := 6) (Nat.le_of_ble_eq_true rfl) (Nat.le_of_ble_eq_true rfl) ?_)
  exact W.iret (v := z0) hx hb hr (fun t ht hW => ⟨⟨z0, S, rfl, hZ, by rw [ht]; exact hP, va_K.moved hW.alike hK, hD⟩, hS.F ht⟩) hS.2.2 dX7_look_41 hlocks
def rs_X7_look (S : St) (x1 : Int32) (x2 : Int32) : Int32 × Int32 × St := (if (rs_X7_isBelow x1 (S.1 127)) = 0 then (rs_X7_look_22 S) else (if (rs_X7_isBelow x2 5) = 0 then (rs_X7_look_22 S) else (rs_X7_look_41 (rs_X5_answer S x1 x2).2 ((rs_X5_answer S x1 x2).1))))
def ok_X7_look (S : St) (x1 : Int32) (x2 : Int32) : Prop := ((ok_X7_isBelow x1 (S.1 127)) ∧ (if (rs_X7_isBelow x1 (S.1 127)) = 0 then ok_X7_look_22 S else ((ok_X7_isBelow x2 5) ∧ (if (rs_X7_isBelow x2 5) = 0 then ok_X7_look_22 S else ((ok_X5_answer S x1 x2) ∧ ok_X7_look_41 (rs_X5_answer S x1 x2).2 ((rs_X5_answer S x1 x2).1))))))
set_option maxHeartbeats 4000000 in
set_option maxRecDepth 100000 in
theorem w_X7_look {p : Program} {l : Launch} {e : Env} {s : State} {m : MethodId} {args : Array Value} {below : List Frame} {meth : Method} {c : Code} {dC : Nat → ClassId} {dI : Nat → Nat → Nat} {cI cZ : ClassId} {a : Nat → Nat} {A : Nat → Prop} (C0 : Cx p s m args meth c RX7 cX7_look (some .int) 3 wsX7_look) (hK : va_K (dC, dI) vwCl (tI cI cZ) s) (hA : ∀ q, s.heap.size ≤ q → A q) (hex : exE A s) (htr : l.stackTraces = false) (hnt : ∀ x ∈ c.exceptionTable.toList, False) (Z : Int32 × Int32 × St) (S : St) (x1 : Int32) (x2 : Int32) (hok : ok_X7_look S x1 x2) (hZ : rs_X7_look S x1 x2 = Z) (H : Heap) (locs : List Loc) (hP : va_P (dC, dI) vwCl (cW cI cZ a S) H) (hD : va_D A (cW cI cZ a S)) (hS : va_S A s.heap H locs) (ls : Array Slot) (hl : lv_has ls 3 [(0, .ref (a 0)), (1, .int x1), (2, .int x2)]) : W p l e rm_X7_look s m args below meth c H locs 0 0 (vx_MQ below (va_Qi (fun (r : Int32) (u : St) => (0, r, u) = Z) (cWB dC dI cI cZ a A) A) (exX dC dI cI cZ a A Z) args s 1 6 A) (F0 m 0 ls []) := by
  obtain ⟨hx, hb, hr, hml, hown, hts, hlocks⟩ := id C0
  rw [ok_X7_look] at hok
  rw [rs_X7_look] at hZ
  refine lv_iload_n hx hb dX7_look_0 rfl (lv_at hl 1 rfl) ?_
  refine lv_aload_n hx hb dX7_look_1 rfl (lv_at hl 0 rfl) ?_
  refine va_get (D := (dC, dI)) (ci := 6) (v := .ref (a 3)) (C := RX7) (T := TX7) (N := 8) hx hb hts iX7_look_X7 hown hK hP 0 rfl rfl 2 (by decide) (hts (.fieldLink RX7 19 "RiskHouse" "rules" "LRiskHouse$Rules;") (by decide +kernel)) (fun _ h9 => h9) rfl dX7_look_2 ?_
  refine va_get (D := (dC, dI)) (ci := 4) (v := .int (S.1 127)) (C := RX5) (T := TX5) (N := 8) hx hb hts iX7_look_X5 hown hK hP 3 rfl rfl 7 (by decide) (hts (.fieldLink RX7 87 "RiskHouse$Rules" "size" "I") (by decide +kernel)) (fun _ h9 => h9) rfl dX7_look_5 ?_
  obtain ⟨k_1, hok⟩ := hok
  have hFc := wFr hS hA
  refine va_calli (va_runS (As := [.int x1, .int (S.1 127)]) (rest := []) ⟨hx, hb, hml, hown, hts⟩ (c_X7_isBelow l H.size x1 (S.1 127) k_1) (va_cwS 2 hts gX7_look_X7_isBelow rfl rfl rfl (by decide +kernel) ⟨Nat.le_of_ble_eq_true rfl, Nat.le_of_ble_eq_true rfl⟩) ⟨fun a9 U g9 mk9 q9 => q9, fun U hU hW => ⟨rfl, congrArg Array.size hU⟩⟩ rfl rfl hl.1 rfl (lv_room (Nat.le_of_ble_eq_true rfl)) dX7_look_8 ⟨Nat.zero_le _, Nat.zero_le _⟩) hS (fun q _ h => hFc q h) hFc (fun r u t H1 locs ht hvm hw hB hz1 hk1 hS => ?_)
  have hP := wKp hP hk1
  subst hw
  generalize H1 = H at hP hS ⊢
  refine lv_if_eq (tgt := 22) hx hb dX7_look_11 (by decide) (fun c_2 => ?_) (fun c_2 => ?_)
  · have hok := okT hok c_2
    have hZ := rsT hZ c_2
    exact w_X7_look_22 C0 hK hA hex htr hnt Z S hok hZ _ _ hP hD hS _ (lv_sub hl [] rfl)
  · have hok := okF hok c_2
    have hZ := rsF hZ c_2
    refine lv_iload_n hx hb dX7_look_14 rfl (lv_at hl 2 rfl) ?_
    refine lv_iconst (v := 5) hx hb dX7_look_15 (by decide) ?_
    obtain ⟨k_3, hok⟩ := hok
    have hFc := wFr hS hA
    refine va_calli (va_runS (As := [.int x2, .int 5]) (rest := []) ⟨hx, hb, hml, hown, hts⟩ (c_X7_isBelow l H.size x2 5 k_3) (va_cwS 2 hts gX7_look_X7_isBelow rfl rfl rfl (by decide +kernel) ⟨Nat.le_of_ble_eq_true rfl, Nat.le_of_ble_eq_true rfl⟩) ⟨fun a9 U g9 mk9 q9 => q9, fun U hU hW => ⟨rfl, congrArg Array.size hU⟩⟩ rfl rfl hl.1 rfl (lv_room (Nat.le_of_ble_eq_true rfl)) dX7_look_16 ⟨Nat.zero_le _, Nat.zero_le _⟩) hS (fun q _ h => hFc q h) hFc (fun r u t H1 locs ht hvm hw hB hz1 hk1 hS => ?_)
    have hP := wKp hP hk1
    subst hw
    generalize H1 = H at hP hS ⊢
    refine lv_if_ne (tgt := 32) hx hb dX7_look_19 (by decide) (fun c_4 => ?_) (fun c_4 => ?_)
    · have hok := okF hok c_4
      have hZ := rsF hZ c_4
      refine lv_aload_n hx hb dX7_look_32 rfl (lv_at hl 0 rfl) ?_
      refine va_get (D := (dC, dI)) (ci := 6) (v := .ref (a 3)) (C := RX7) (T := TX7) (N := 8) hx hb hts iX7_look_X7 hown hK hP 0 rfl rfl 2 (by decide) (hts (.fieldLink RX7 19 "RiskHouse" "rules" "LRiskHouse$Rules;") (by decide +kernel)) (fun _ h9 => h9) rfl dX7_look_33 ?_
      refine lv_iload_n hx hb dX7_look_36 rfl (lv_at hl 1 rfl) ?_
      refine lv_iload_n hx hb dX7_look_37 rfl (lv_at hl 2 rfl) ?_
      obtain ⟨k_5, hok⟩ := hok
      have hFc := wFw (w := cW cI cZ a S) hD hS hA
      refine va_calli (va_runV (As := [.int x1, .int x2]) (rest := []) ⟨hx, hb, hml, hown, hts⟩ (c_X5_answer l dC dI cI cZ a H.size S x1 x2 k_5) (cwV 2 hts gX7_look_X5_answer rfl rfl rfl (by decide +kernel) ⟨Nat.le_of_ble_eq_true rfl, Nat.le_of_ble_eq_true rfl⟩) ⟨wBl, va_recv hK hP (ci := 4) (q0 := 3) rfl rfl, fun U hU hW => ⟨rfl, by rw [hU], by rw [hU]; exact hP, va_K.moved hW.alike hK, hD.weaken (fun _ _ _ _ => trivial)⟩⟩ rfl rfl hl.1 rfl (lv_room (Nat.le_of_ble_eq_true rfl)) dX7_look_38 ⟨Nat.zero_le _, Nat.zero_le _⟩) hS (fun q _ h => hFc q h) hFc (fun r u t H1 locs ht hvm hw hB hz1 hk1 hS => ?_)
      obtain ⟨hP, hD⟩ := wJn ht hFc hB.1 hB.2.2
      have e1 : r = (rs_X5_answer S x1 x2).1 := congrArg Prod.fst hw
      have e2 : u = (rs_X5_answer S x1 x2).2 := congrArg Prod.snd hw
      rw [e1]
      rw [e2] at hP hD
      generalize H1 = H at hP hS ⊢
      exact w_X7_look_41 C0 hK hA hex htr hnt Z (rs_X5_answer S x1 x2).2 ((rs_X5_answer S x1 x2).1) hok hZ _ _ hP hD hS _ (lv_sub hl [] rfl)
    · have hok := okT hok c_4
      have hZ := rsT hZ c_4
      exact w_X7_look_22 C0 hK hA hex htr hnt Z S hok hZ _ _ hP hD hS _ (lv_sub hl [] rfl)
set_option maxHeartbeats 4000000 in
set_option maxRecDepth 100000 in
theorem c_X7_look (l : Launch) (htr : l.stackTraces = false) (dC : Nat → ClassId) (dI : Nat → Nat → Nat) (cI cZ : ClassId) (a : Nat → Nat) (sz : Nat) (S : St) (x1 : Int32) (x2 : Int32) (hok : ok_X7_look S x1 x2) : vx_Met l yX7_look wsX7_look rm_X7_look (va_Pc [.ref (a 0), .int x1, .int x2] (fun U => cWP dC dI cI cZ a sz S U ∧ exE (va_A (cW cI cZ a S) sz) U)) (va_Qi (fun (r : Int32) (u : St) => (0, r, u) = rs_X7_look S x1 x2) (cWB dC dI cI cZ a (va_A (cW cI cZ a S) sz)) (va_A (cW cI cZ a S) sz)) (exX dC dI cI cZ a (va_A (cW cI cZ a S) sz) (rs_X7_look S x1 x2)) 1 6 (va_A (cW cI cZ a S) sz) := by
  refine vx_ofW (cc := cX7_look) (maxL := 3) (ret := (some .int)) (by decide) rfl ?_
  intro p e s m args below meth c s₁ B hml hnt hv
  obtain ⟨rfl, ⟨hsz, hP, hK, hD0⟩, hex⟩ := hv
  subst hsz
  have hD := hD0.self (sz := s.heap.size)
  have hl := lv_entry ([.ref (a 0), .int x1, .int x2]) (n := 3) (Nat.le_of_ble_eq_true rfl)
  rw [lg_entry_eq]
  generalize (lg_sl ([.ref (a 0), .int x1, .int x2]) ++ List.replicate (3 - (lg_sl ([.ref (a 0), .int x1, .int x2])).length) Slot.unset).toArray = ls at hl ⊢
  have hl : lv_has ls 3 [(0, .ref (a 0)), (1, .int x1), (2, .int x2)] := hl
  exact w_X7_look ⟨B.exec, B.bytes, B.returns, hml, findClass_of_methodNamed B.named, atoms_spec (ws := wsX7_look) B.pre, B.notSynchronized⟩ hK (fun q h => Or.inr h) hex htr hnt _ S x1 x2 hok rfl _ _ hP hD va_S.rf ls hl
