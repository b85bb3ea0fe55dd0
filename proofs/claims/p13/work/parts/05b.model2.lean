abbrev rm_X8_rulesOf : Room := { frames := 0, cells := 0, slots := 0, locals := 0 }
theorem iX8_rulesOf_X8 : ∀ w ∈ wsX80, w ∈ wsX8_rulesOf := by decide +kernel
def rs_X8_rulesOf_28 (k : St → Int32 → Int32 → Int32 → Int32 × St) (S : St) (x1 : Int32) (x3 : Int32) (z0 : Int32) (z1 : Int32) : Int32 × St := (k S x1 (z0 + z1) (x3 + 1))
def ok_X8_rulesOf_28 (kk : St → Int32 → Int32 → Int32 → Prop) (S : St) (x1 : Int32) (x3 : Int32) (z0 : Int32) (z1 : Int32) : Prop := kk S x1 (z0 + z1) (x3 + 1)
set_option maxHeartbeats 4000000 in
set_option maxRecDepth 100000 in
theorem w_X8_rulesOf_28 {p : Program} {l : Launch} {e : Env} {s : State} {m : MethodId} {args : Array Value} {below : List Frame} {meth : Method} {c : Code} {dC : Nat → ClassId} {dI : Nat → Nat → Nat} {cI cZ : ClassId} {a : Nat → Nat} {A : Nat → Prop} (C0 : Cx p s m args meth c RX8 cX8_rulesOf (some .int) 4 wsX8_rulesOf) (hK : va_K (dC, dI) vwCl (tI cI cZ) s) (hA : ∀ q, s.heap.size ≤ q → A q) (Z : Int32 × St) (k : St → Int32 → Int32 → Int32 → Int32 × St) (kk : St → Int32 → Int32 → Int32 → Prop) (hk : ∀ (S : St) (x1 : Int32) (x2 : Int32) (x3 : Int32) (hok : kk S x1 x2 x3) (hZ : k S x1 x2 x3 = Z) (H : Heap) (locs : List Loc) (hP : va_P (dC, dI) vwCl (mW cI cZ a S) H) (hD : va_D A (mW cI cZ a S)) (hS : va_S A s.heap H locs) (ls : Array Slot) (hl : lv_has ls 4 [(0, .ref (a 0)), (1, .int x1), (2, .int x2), (3, .int x3)]), W p l e rm_X8_rulesOf s m args below meth c H locs 0 0 (MQ below (va_Qi (fun (r : Int32) (u : St) => (r, u) = Z) (mWB dC dI cI cZ a A) A) args s 0 0 A) (F0 m 4 ls [])) (S : St) (x1 : Int32) (x3 : Int32) (z0 : Int32) (z1 : Int32) (hok : ok_X8_rulesOf_28 kk S x1 x3 z0 z1) (hZ : rs_X8_rulesOf_28 k S x1 x3 z0 z1 = Z) (H : Heap) (locs : List Loc) (hP : va_P (dC, dI) vwCl (mW cI cZ a S) H) (hD : va_D A (mW cI cZ a S)) (hS : va_S A s.heap H locs) (ls : Array Slot) (hl : lv_has ls 4 [(0, .ref (a 0)), (1, .int x1), (3, .int x3)]) : W p l e rm_X8_rulesOf s m args below meth c H locs 0 0 (MQ below (va_Qi (fun (r : Int32) (u : St) => (r, u) = Z) (mWB dC dI cI cZ a A) A) args s 0 0 A) (F0 m 28 ls [.int z1, .int z0]) := by
  obtain ⟨hx, hb, hr, hml, hown, hts, hlocks⟩ := id C0
  rw [ok_X8_rulesOf_28] at hok
  rw [rs_X8_rulesOf_28] at hZ
  refine lv_iadd hx hb dX8_rulesOf_28 ?_
  refine lv_istore_n (lv' := [(2, .int (z0 + z1)), (0, .ref (a 0)), (1, .int x1), (3, .int x3)]) hx hb dX8_rulesOf_29 rfl hl (by decide) rfl (fun ls hl => ?_)
  refine lv_iinc (v := (x3 + 1)) (lv' := [(3, .int (x3 + 1)), (2, .int (z0 + z1)), (0, .ref (a 0)), (1, .int x1)]) hx hb dX8_rulesOf_30 hl (k := 3) rfl rfl (by decide) rfl (fun ls hl => ?_)
  refine lv_goto (tgt := 4) hx hb dX8_rulesOf_33 (by decide) ?_
  exact hk S x1 (z0 + z1) (x3 + 1) hok hZ _ _ hP hD hS _ (lv_sub hl [2, 3, 1, 0] rfl)
def rs_X8_rulesOf_4 : Nat → St → Int32 → Int32 → Int32 → Int32 × St
  | 0, S, x1, x2, x3 => (0, S)
  | n + 1, S, x1, x2, x3 => (if (S.1 127) ≤ x3 then (x2, S) else (if ((S.2 4) x3.toNatClampNeg) = x1 then (rs_X8_rulesOf_28 (rs_X8_rulesOf_4 n) S x1 x3 x2 1) else (rs_X8_rulesOf_28 (rs_X8_rulesOf_4 n) S x1 x3 x2 0)))
def ok_X8_rulesOf_4 : Nat → St → Int32 → Int32 → Int32 → Prop
  | 0, _, _, _, _ => False
  | n + 1, S, x1, x2, x3 => (if (S.1 127) ≤ x3 then True else ((vp_in x3 12) ∧ (if ((S.2 4) x3.toNatClampNeg) = x1 then ok_X8_rulesOf_28 (ok_X8_rulesOf_4 n) S x1 x3 x2 1 else ok_X8_rulesOf_28 (ok_X8_rulesOf_4 n) S x1 x3 x2 0)))
set_option maxHeartbeats 4000000 in
set_option maxRecDepth 100000 in
theorem w_X8_rulesOf_4 {p : Program} {l : Launch} {e : Env} {s : State} {m : MethodId} {args : Array Value} {below : List Frame} {meth : Method} {c : Code} {dC : Nat → ClassId} {dI : Nat → Nat → Nat} {cI cZ : ClassId} {a : Nat → Nat} {A : Nat → Prop} (C0 : Cx p s m args meth c RX8 cX8_rulesOf (some .int) 4 wsX8_rulesOf) (hK : va_K (dC, dI) vwCl (tI cI cZ) s) (hA : ∀ q, s.heap.size ≤ q → A q) (Z : Int32 × St) : ∀ (n : Nat) (S : St) (x1 : Int32) (x2 : Int32) (x3 : Int32) (hok : ok_X8_rulesOf_4 n S x1 x2 x3) (hZ : rs_X8_rulesOf_4 n S x1 x2 x3 = Z) (H : Heap) (locs : List Loc) (hP : va_P (dC, dI) vwCl (mW cI cZ a S) H) (hD : va_D A (mW cI cZ a S)) (hS : va_S A s.heap H locs) (ls : Array Slot) (hl : lv_has ls 4 [(0, .ref (a 0)), (1, .int x1), (2, .int x2), (3, .int x3)]), W p l e rm_X8_rulesOf s m args below meth c H locs 0 0 (MQ below (va_Qi (fun (r : Int32) (u : St) => (r, u) = Z) (mWB dC dI cI cZ a A) A) args s 0 0 A) (F0 m 4 ls []) := by
  obtain ⟨hx, hb, hr, hml, hown, hts, hlocks⟩ := id C0
  intro n
  induction n with
  | zero => intro S x1 x2 x3 hok; exact absurd hok (fun h => h)
  | succ n ih =>
    intro S x1 x2 x3 hok hZ H locs hP hD hS ls hl
    rw [ok_X8_rulesOf_4] at hok
    rw [rs_X8_rulesOf_4] at hZ
    refine lv_iload_n hx hb dX8_rulesOf_4 rfl (lv_at hl 3 rfl) ?_
    refine lv_aload_n hx hb dX8_rulesOf_5 rfl (lv_at hl 0 rfl) ?_
    refine va_get (D := (dC, dI)) (ci := 7) (v := .int (S.1 127)) (C := RX8) (T := TX8) (N := 35) hx hb hts iX8_rulesOf_X8 hown hK hP 0 rfl rfl 5 (by decide) (hts (.fieldLink RX8 91 "RiskHouseModel" "rules" "I") (by decide +kernel)) (fun _ h9 => h9) rfl dX8_rulesOf_6 ?_
    refine lv_icmp_ge (tgt := 36) hx hb dX8_rulesOf_9 (by decide) (fun c_1 => ?_) (fun c_1 => ?_)
    · have hok := okT hok c_1
      have hZ := rsT hZ c_1
      refine lv_iload_n hx hb dX8_rulesOf_36 rfl (lv_at hl 2 rfl) ?_
      exact W.iret (v := x2) hx hb hr (fun t ht hW => ⟨⟨x2, S, rfl, hZ, by rw [ht]; exact hP, va_K.moved hW.alike hK, hD⟩, hS.F ht⟩) hS.2.2 dX8_rulesOf_37 hlocks
    · have hok := okF hok c_1
      have hZ := rsF hZ c_1
      refine lv_iload_n hx hb dX8_rulesOf_12 rfl (lv_at hl 2 rfl) ?_
      refine lv_aload_n hx hb dX8_rulesOf_13 rfl (lv_at hl 0 rfl) ?_
      refine va_get (D := (dC, dI)) (ci := 7) (v := .ref (a 4)) (C := RX8) (T := TX8) (N := 35) hx hb hts iX8_rulesOf_X8 hown hK hP 0 rfl rfl 6 (by decide) (hts (.fieldLink RX8 19 "RiskHouseModel" "editionOf" "[I") (by decide +kernel)) (fun _ h9 => h9) rfl dX8_rulesOf_14 ?_
      refine lv_iload_n hx hb dX8_rulesOf_17 rfl (lv_at hl 3 rfl) ?_
      obtain ⟨h_2, hok⟩ := hok
      refine va_iald (f := (S.2 4)) hx hb hK hP 4 0 rfl rfl h_2 dX8_rulesOf_18 ?_
      refine lv_iload_n hx hb dX8_rulesOf_19 rfl (lv_at hl 1 rfl) ?_
      refine lv_icmp_ne (tgt := 27) hx hb dX8_rulesOf_20 (by decide) (fun c_3 => ?_) (fun c_3 => ?_)
      · have hok := okF hok c_3
        have hZ := rsF hZ c_3
        refine lv_iconst (v := 0) hx hb dX8_rulesOf_27 (by decide) ?_
        exact w_X8_rulesOf_28 C0 hK hA Z (rs_X8_rulesOf_4 n) (ok_X8_rulesOf_4 n) ih S x1 x3 x2 0 hok hZ _ _ hP hD hS _ (lv_sub hl [0, 1, 3] rfl)
      · have hok := okT hok c_3
        have hZ := rsT hZ c_3
        refine lv_iconst (v := 1) hx hb dX8_rulesOf_23 (by decide) ?_
        refine lv_goto (tgt := 28) hx hb dX8_rulesOf_24 (by decide) ?_
        exact w_X8_rulesOf_28 C0 hK hA Z (rs_X8_rulesOf_4 n) (ok_X8_rulesOf_4 n) ih S x1 x3 x2 1 hok hZ _ _ hP hD hS _ (lv_sub hl [0, 1, 3] rfl)
def rs_X8_rulesOf (S : St) (x1 : Int32) : Int32 × St := (rs_X8_rulesOf_4 100 S x1 0 0)
def ok_X8_rulesOf (S : St) (x1 : Int32) : Prop := ok_X8_rulesOf_4 100 S x1 0 0
set_option maxHeartbeats 4000000 in
set_option maxRecDepth 100000 in
theorem w_X8_rulesOf {p : Program} {l : Launch} {e : Env} {s : State} {m : MethodId} {args : Array Value} {below : List Frame} {meth : Method} {c : Code} {dC : Nat → ClassId} {dI : Nat → Nat → Nat} {cI cZ : ClassId} {a : Nat → Nat} {A : Nat → Prop} (C0 : Cx p s m args meth c RX8 cX8_rulesOf (some .int) 4 wsX8_rulesOf) (hK : va_K (dC, dI) vwCl (tI cI cZ) s) (hA : ∀ q, s.heap.size ≤ q → A q) (Z : Int32 × St) (S : St) (x1 : Int32) (hok : ok_X8_rulesOf S x1) (hZ : rs_X8_rulesOf S x1 = Z) (H : Heap) (locs : List Loc) (hP : va_P (dC, dI) vwCl (mW cI cZ a S) H) (hD : va_D A (mW cI cZ a S)) (hS : va_S A s.heap H locs) (ls : Array Slot) (hl : lv_has ls 4 [(0, .ref (a 0)), (1, .int x1)]) : W p l e rm_X8_rulesOf s m args below meth c H locs 0 0 (MQ below (va_Qi (fun (r : Int32) (u : St) => (r, u) = Z) (mWB dC dI cI cZ a A) A) args s 0 0 A) (F0 m 0 ls []) := by
  obtain ⟨hx, hb, hr, hml, hown, hts, hlocks⟩ := id C0
  rw [ok_X8_rulesOf] at hok
  rw [rs_X8_rulesOf] at hZ
  refine lv_iconst (v := 0) hx hb dX8_rulesOf_0 (by decide) ?_
  refine lv_istore_n (lv' := [(2, .int 0), (0, .ref (a 0)), (1, .int x1)]) hx hb dX8_rulesOf_1 rfl hl (by decide) rfl (fun ls hl => ?_)
  refine lv_iconst (v := 0) hx hb dX8_rulesOf_2 (by decide) ?_
  refine lv_istore_n (lv' := [(3, .int 0), (2, .int 0), (0, .ref (a 0)), (1, .int x1)]) hx hb dX8_rulesOf_3 rfl hl (by decide) rfl (fun ls hl => ?_)
  exact w_X8_rulesOf_4 C0 hK hA Z 100 S x1 0 0 hok hZ _ _ hP hD hS _ (lv_sub hl [2, 3, 1, 0] rfl)
set_option maxHeartbeats 4000000 in
set_option maxRecDepth 100000 in
theorem c_X8_rulesOf (l : Launch) (dC : Nat → ClassId) (dI : Nat → Nat → Nat) (cI cZ : ClassId) (a : Nat → Nat) (sz : Nat) (S : St) (x1 : Int32) (hok : ok_X8_rulesOf S x1) : Met l yX8_rulesOf wsX8_rulesOf rm_X8_rulesOf (va_Pc [.ref (a 0), .int x1] (mWP dC dI cI cZ a sz S)) (va_Qi (fun (r : Int32) (u : St) => (r, u) = rs_X8_rulesOf S x1) (mWB dC dI cI cZ a (va_A (mW cI cZ a S) sz)) (va_A (mW cI cZ a S) sz)) 0 0 (va_A (mW cI cZ a S) sz) := by
  refine Met.ofW (cc := cX8_rulesOf) (maxL := 4) (ret := (some .int)) (by decide) rfl ?_
  intro p e s m args below meth c s₁ B hml hv
  obtain ⟨rfl, hsz, hP, hK, hD0⟩ := hv
  subst hsz
  have hD := hD0.self (sz := s.heap.size)
  have hl := lv_entry ([.ref (a 0), .int x1]) (n := 4) (Nat.le_of_ble_eq_true rfl)
  rw [lg_entry_eq]
  generalize (lg_sl ([.ref (a 0), .int x1]) ++ List.replicate (4 - (lg_sl ([.ref (a 0), .int x1])).length) Slot.unset).toArray = ls at hl ⊢
  have hl : lv_has ls 4 [(0, .ref (a 0)), (1, .int x1)] := hl
  exact w_X8_rulesOf ⟨B.exec, B.bytes, B.returns, hml, findClass_of_methodNamed B.named, atoms_spec (ws := wsX8_rulesOf) B.pre, B.notSynchronized⟩ hK (fun q h => Or.inr h) _ S x1 hok rfl _ _ hP hD va_S.rf ls hl
abbrev rm_X8_starts : Room := { frames := 4, cells := 0, slots := 0, locals := 90 }
theorem iX8_starts_X8 : ∀ w ∈ wsX80, w ∈ wsX8_starts := by decide +kernel
def rs_X8_starts_65 (k : St → Int32 → Int32 → St) (S : St) (x1 : Int32) (x2 : Int32) : St := (k S x1 (x2 + 1))
def ok_X8_starts_65 (kk : St → Int32 → Int32 → Prop) (S : St) (x1 : Int32) (x2 : Int32) : Prop := kk S x1 (x2 + 1)
set_option maxHeartbeats 4000000 in
set_option maxRecDepth 100000 in
theorem w_X8_starts_65 {p : Program} {l : Launch} {e : Env} {s : State} {m : MethodId} {args : Array Value} {below : List Frame} {meth : Method} {c : Code} {dC : Nat → ClassId} {dI : Nat → Nat → Nat} {cI cZ : ClassId} {a : Nat → Nat} {A : Nat → Prop} (C0 : Cx p s m args meth c RX8 cX8_starts none 3 wsX8_starts) (hK : va_K (dC, dI) vwCl (tI cI cZ) s) (hA : ∀ q, s.heap.size ≤ q → A q) (Z : St) (k : St → Int32 → Int32 → St) (kk : St → Int32 → Int32 → Prop) (hk : ∀ (S : St) (x1 : Int32) (x2 : Int32) (hok : kk S x1 x2) (hZ : k S x1 x2 = Z) (H : Heap) (locs : List Loc) (hP : va_P (dC, dI) vwCl (mW cI cZ a S) H) (hD : va_D A (mW cI cZ a S)) (hS : va_S A s.heap H locs) (ls : Array Slot) (hl : lv_has ls 3 [(0, .ref (a 0)), (1, .int x1), (2, .int x2)]), W p l e rm_X8_starts s m args below meth c H locs 0 0 (MQ below (va_Qv (fun u : St => u = Z) (mWB dC dI cI cZ a A) A) args s 0 0 A) (F0 m 9 ls [])) (S : St) (x1 : Int32) (x2 : Int32) (hok : ok_X8_starts_65 kk S x1 x2) (hZ : rs_X8_starts_65 k S x1 x2 = Z) (H : Heap) (locs : List Loc) (hP : va_P (dC, dI) vwCl (mW cI cZ a S) H) (hD : va_D A (mW cI cZ a S)) (hS : va_S A s.heap H locs) (ls : Array Slot) (hl : lv_has ls 3 [(0, .ref (a 0)), (1, .int x1), (2, .int x2)]) : W p l e rm_X8_starts s m args below meth c H locs 0 0 (MQ below (va_Qv (fun u : St => u = Z) (mWB dC dI cI cZ a A) A) args s 0 0 A) (F0 m 65 ls []) := by
  obtain ⟨hx, hb, hr, hml, hown, hts, hlocks⟩ := id C0
  rw [ok_X8_starts_65] at hok
  rw [rs_X8_starts_65] at hZ
  refine lv_iinc (v := (x2 + 1)) (lv' := [(2, .int (x2 + 1)), (0, .ref (a 0)), (1, .int x1)]) hx hb dX8_starts_65 hl (k := 2) rfl rfl (by decide) rfl (fun ls hl => ?_)
  refine lv_goto (tgt := 9) hx hb dX8_starts_68 (by decide) ?_
  exact hk S x1 (x2 + 1) hok hZ _ _ hP hD hS _ (lv_sub hl [1, 2, 0] rfl)
def rs_X8_starts_64 (k : St → Int32 → Int32 → St) (S : St) (x1 : Int32) (x2 : Int32) (z1 : Int32) (z2 : Int32) : St := (rs_X8_starts_65 k (sA S 13 z1.toNatClampNeg z2) x1 x2)
def ok_X8_starts_64 (kk : St → Int32 → Int32 → Prop) (S : St) (x1 : Int32) (x2 : Int32) (z1 : Int32) (z2 : Int32) : Prop := ((vp_in z1 4) ∧ ok_X8_starts_65 kk (sA S 13 z1.toNatClampNeg z2) x1 x2)
set_option maxHeartbeats 4000000 in
set_option maxRecDepth 100000 in
theorem w_X8_starts_64 {p : Program} {l : Launch} {e : Env} {s : State} {m : MethodId} {args : Array Value} {below : List Frame} {meth : Method} {c : Code} {dC : Nat → ClassId} {dI : Nat → Nat → Nat} {cI cZ : ClassId} {a : Nat → Nat} {A : Nat → Prop} (C0 : Cx p s m args meth c RX8 cX8_starts none 3 wsX8_starts) (hK : va_K (dC, dI) vwCl (tI cI cZ) s) (hA : ∀ q, s.heap.size ≤ q → A q) (Z : St) (k : St → Int32 → Int32 → St) (kk : St → Int32 → Int32 → Prop) (hk : ∀ (S : St) (x1 : Int32) (x2 : Int32) (hok : kk S x1 x2) (hZ : k S x1 x2 = Z) (H : Heap) (locs : List Loc) (hP : va_P (dC, dI) vwCl (mW cI cZ a S) H) (hD : va_D A (mW cI cZ a S)) (hS : va_S A s.heap H locs) (ls : Array Slot) (hl : lv_has ls 3 [(0, .ref (a 0)), (1, .int x1), (2, .int x2)]), W p l e rm_X8_starts s m args below meth c H locs 0 0 (MQ below (va_Qv (fun u : St => u = Z) (mWB dC dI cI cZ a A) A) args s 0 0 A) (F0 m 9 ls [])) (S : St) (x1 : Int32) (x2 : Int32) (z1 : Int32) (z2 : Int32) (hok : ok_X8_starts_64 kk S x1 x2 z1 z2) (hZ : rs_X8_starts_64 k S x1 x2 z1 z2 = Z) (H : Heap) (locs : List Loc) (hP : va_P (dC, dI) vwCl (mW cI cZ a S) H) (hD : va_D A (mW cI cZ a S)) (hS : va_S A s.heap H locs) (ls : Array Slot) (hl : lv_has ls 3 [(0, .ref (a 0)), (1, .int x1), (2, .int x2)]) : W p l e rm_X8_starts s m args below meth c H locs 0 0 (MQ below (va_Qv (fun u : St => u = Z) (mWB dC dI cI cZ a A) A) args s 0 0 A) (F0 m 64 ls [.int z2, .int z1, .ref (a 3)]) := by
  obtain ⟨hx, hb, hr, hml, hown, hts, hlocks⟩ := id C0
  rw [ok_X8_starts_64] at hok
  rw [rs_X8_starts_64] at hZ
  obtain ⟨h_1, hok⟩ := hok
  refine va_iast hx hb hK hP hD hS 3 0 rfl rfl h_1 dX8_starts_64 (fun H locs hP hD hS => ?_)
  have hP : va_P (dC, dI) vwCl (mW cI cZ a (sA S 13 z1.toNatClampNeg z2)) H := hP
  have hD : va_D A (mW cI cZ a (sA S 13 z1.toNatClampNeg z2)) := hD
  exact w_X8_starts_65 C0 hK hA Z k kk hk (sA S 13 z1.toNatClampNeg z2) x1 x2 hok hZ _ _ hP hD hS _ (lv_sub hl [0, 1, 2] rfl)
def rs_X8_starts_56 (k : St → Int32 → Int32 → St) (S : St) (x1 : Int32) (x2 : Int32) (z1 : Int32) (z2 : Int32) : St := (if z2 = 0 then (rs_X8_starts_64 k S x1 x2 z1 2) else (rs_X8_starts_64 k S x1 x2 z1 1))
def ok_X8_starts_56 (kk : St → Int32 → Int32 → Prop) (S : St) (x1 : Int32) (x2 : Int32) (z1 : Int32) (z2 : Int32) : Prop := (if z2 = 0 then ok_X8_starts_64 kk S x1 x2 z1 2 else ok_X8_starts_64 kk S x1 x2 z1 1)
set_option maxHeartbeats 4000000 in
set_option maxRecDepth 100000 in
theorem w_X8_starts_56 {p : Program} {l : Launch} {e : Env} {s : State} {m : MethodId} {args : Array Value} {below : List Frame} {meth : Method} {c : Code} {dC : Nat → ClassId} {dI : Nat → Nat → Nat} {cI cZ : ClassId} {a : Nat → Nat} {A : Nat → Prop} (C0 : Cx p s m args meth c RX8 cX8_starts none 3 wsX8_starts) (hK : va_K (dC, dI) vwCl (tI cI cZ) s) (hA : ∀ q, s.heap.size ≤ q → A q) (Z : St) (k : St → Int32 → Int32 → St) (kk : St → Int32 → Int32 → Prop) (hk : ∀ (S : St) (x1 : Int32) (x2 : Int32) (hok : kk S x1 x2) (hZ : k S x1 x2 = Z) (H : Heap) (locs : List Loc) (hP : va_P (dC, dI) vwCl (mW cI cZ a S) H) (hD : va_D A (mW cI cZ a S)) (hS : va_S A s.heap H locs) (ls : Array Slot) (hl : lv_has ls 3 [(0, .ref (a 0)), (1, .int x1), (2, .int x2)]), W p l e rm_X8_starts s m args below meth c H locs 0 0 (MQ below (va_Qv (fun u : St => u = Z) (mWB dC dI cI cZ a A) A) args s 0 0 A) (F0 m 9 ls [])) (S : St) (x1 : Int32) (x2 : Int32) (z1 : Int32) (z2 : Int32) (hok : ok_X8_starts_56 kk S x1 x2 z1 z2) (hZ : rs_X8_starts_56 k S x1 x2 z1 z2 = Z) (H : Heap) (locs : List Loc) (hP : va_P (dC, dI) vwCl (mW cI cZ a S) H) (hD : va_D A (mW cI cZ a S)) (hS : va_S A s.heap H locs) (ls : Array Slot) (hl : lv_has ls 3 [(0, .ref (a 0)), (1, .int x1), (2, .int x2)]) : W p l e rm_X8_starts s m args below meth c H locs 0 0 (MQ below (va_Qv (fun u : St => u = Z) (mWB dC dI cI cZ a A) A) args s 0 0 A) (F0 m 56 ls [.int z2, .int z1, .ref (a 3)]) := by
  obtain ⟨hx, hb, hr, hml, hown, hts, hlocks⟩ := id C0
  rw [ok_X8_starts_56] at hok
  rw [rs_X8_starts_56] at hZ
  refine lv_if_eq (tgt := 63) hx hb dX8_starts_56 (by decide) (fun c_1 => ?_) (fun c_1 => ?_)
  · have hok := okT hok c_1
    have hZ := rsT hZ c_1
    refine lv_iconst (v := 2) hx hb dX8_starts_63 (by decide) ?_
    exact w_X8_starts_64 C0 hK hA Z k kk hk S x1 x2 z1 2 hok hZ _ _ hP hD hS _ (lv_sub hl [0, 1, 2] rfl)
  · have hok := okF hok c_1
    have hZ := rsF hZ c_1
    refine lv_iconst (v := 1) hx hb dX8_starts_59 (by decide) ?_
    refine lv_goto (tgt := 64) hx hb dX8_starts_60 (by decide) ?_
    exact w_X8_starts_64 C0 hK hA Z k kk hk S x1 x2 z1 1 hok hZ _ _ hP hD hS _ (lv_sub hl [0, 1, 2] rfl)
def rs_X8_starts_9 : Nat → St → Int32 → Int32 → St
  | 0, S, x1, x2 => S
  | n + 1, S, x1, x2 => (if (S.1 127) ≤ x2 then S else (if ((S.2 4) x2.toNatClampNeg) = x1 then (if ((S.2 5) x2.toNatClampNeg) = 0 then (rs_X8_starts_65 (rs_X8_starts_9 n) S x1 x2) else (if ((S.2 13) x1.toNatClampNeg) = 1 then (rs_X8_starts_56 (rs_X8_starts_9 n) (rs_X8_runs S x2).2 x1 x2 x1 ((rs_X8_runs S x2).1)) else (rs_X8_starts_65 (rs_X8_starts_9 n) S x1 x2))) else (rs_X8_starts_65 (rs_X8_starts_9 n) S x1 x2)))
def ok_X8_starts_9 : Nat → St → Int32 → Int32 → Prop
  | 0, _, _, _ => False
  | n + 1, S, x1, x2 => (if (S.1 127) ≤ x2 then True else ((vp_in x2 12) ∧ (if ((S.2 4) x2.toNatClampNeg) = x1 then ((vp_in x2 12) ∧ (if ((S.2 5) x2.toNatClampNeg) = 0 then ok_X8_starts_65 (ok_X8_starts_9 n) S x1 x2 else ((vp_in x1 4) ∧ (if ((S.2 13) x1.toNatClampNeg) = 1 then ((ok_X8_runs S x2) ∧ ok_X8_starts_56 (ok_X8_starts_9 n) (rs_X8_runs S x2).2 x1 x2 x1 ((rs_X8_runs S x2).1)) else ok_X8_starts_65 (ok_X8_starts_9 n) S x1 x2)))) else ok_X8_starts_65 (ok_X8_starts_9 n) S x1 x2)))
set_option maxHeartbeats 4000000 in
set_option maxRecDepth 100000 in
theorem w_X8_starts_9 {p : Program} {l : Launch} {e : Env} {s : State} {m : MethodId} {args : Array Value} {below : List Frame} {meth : Method} {c : Code} {dC : Nat → ClassId} {dI : Nat → Nat → Nat} {cI cZ : ClassId} {a : Nat → Nat} {A : Nat → Prop} (C0 : Cx p s m args meth c RX8 cX8_starts none 3 wsX8_starts) (hK : va_K (dC, dI) vwCl (tI cI cZ) s) (hA : ∀ q, s.heap.size ≤ q → A q) (Z : St) : ∀ (n : Nat) (S : St) (x1 : Int32) (x2 : Int32) (hok : ok_X8_starts_9 n S x1 x2) (hZ : rs_X8_starts_9 n S x1 x2 = Z) (H : Heap) (locs : List Loc) (hP : va_P (dC, dI) vwCl (mW cI cZ a S) H) (hD : va_D A (mW cI cZ a S)) (hS : va_S A s.heap H locs) (ls : Array Slot) (hl : lv_has ls 3 [(0, .ref (a 0)), (1, .int x1), (2, .int x2)]), W p l e rm_X8_starts s m args below meth c H locs 0 0 (MQ below (va_Qv (fun u : St => u = Z) (mWB dC dI cI cZ a A) A) args s 0 0 A) (F0 m 9 ls []) := by
  obtain ⟨hx, hb, hr, hml, hown, hts, hlocks⟩ := id C0
  intro n
  induction n with
  | zero => intro S x1 x2 hok; exact absurd hok (fun h => h)
  | succ n ih =>
    intro S x1 x2 hok hZ H locs hP hD hS ls hl
    rw [ok_X8_starts_9] at hok
    rw [rs_X8_starts_9] at hZ
    refine lv_iload_n hx hb dX8_starts_9 rfl (lv_at hl 2 rfl) ?_
    refine lv_aload_n hx hb dX8_starts_10 rfl (lv_at hl 0 rfl) ?_
    refine va_get (D := (dC, dI)) (ci := 7) (v := .int (S.1 127)) (C := RX8) (T := TX8) (N := 35) hx hb hts iX8_starts_X8 hown hK hP 0 rfl rfl 5 (by decide) (hts (.fieldLink RX8 91 "RiskHouseModel" "rules" "I") (by decide +kernel)) (fun _ h9 => h9) rfl dX8_starts_11 ?_
    refine lv_icmp_ge (tgt := 71) hx hb dX8_starts_14 (by decide) (fun c_1 => ?_) (fun c_1 => ?_)
    · have hok := okT hok c_1
      have hZ := rsT hZ c_1
      exact W.vret hx hb hr (fun t ht hW => ⟨⟨S, rfl, hZ, by rw [ht]; exact hP, va_K.moved hW.alike hK, hD⟩, hS.F ht⟩) hS.2.2 dX8_starts_71 hlocks
    · have hok := okF hok c_1
      have hZ := rsF hZ c_1
      refine lv_aload_n hx hb dX8_starts_17 rfl (lv_at hl 0 rfl) ?_
      refine va_get (D := (dC, dI)) (ci := 7) (v := .ref (a 4)) (C := RX8) (T := TX8) (N := 35) hx hb hts iX8_starts_X8 hown hK hP 0 rfl rfl 6 (by decide) (hts (.fieldLink RX8 19 "RiskHouseModel" "editionOf" "[I") (by decide +kernel)) (fun _ h9 => h9) rfl dX8_starts_18 ?_
      refine lv_iload_n hx hb dX8_starts_21 rfl (lv_at hl 2 rfl) ?_
      obtain ⟨h_2, hok⟩ := hok
      refine va_iald (f := (S.2 4)) hx hb hK hP 4 0 rfl rfl h_2 dX8_starts_22 ?_
      refine lv_iload_n hx hb dX8_starts_23 rfl (lv_at hl 1 rfl) ?_
      refine lv_icmp_ne (tgt := 65) hx hb dX8_starts_24 (by decide) (fun c_3 => ?_) (fun c_3 => ?_)
      · have hok := okF hok c_3
        have hZ := rsF hZ c_3
        exact w_X8_starts_65 C0 hK hA Z (rs_X8_starts_9 n) (ok_X8_starts_9 n) ih S x1 x2 hok hZ _ _ hP hD hS _ (lv_sub hl [0, 1, 2] rfl)
      · have hok := okT hok c_3
        have hZ := rsT hZ c_3
        refine lv_aload_n hx hb dX8_starts_27 rfl (lv_at hl 0 rfl) ?_
        refine va_get (D := (dC, dI)) (ci := 7) (v := .ref (a 5)) (C := RX8) (T := TX8) (N := 35) hx hb hts iX8_starts_X8 hown hK hP 0 rfl rfl 7 (by decide) (hts (.fieldLink RX8 22 "RiskHouseModel" "isStart" "[Z") (by decide +kernel)) (fun _ h9 => h9) rfl dX8_starts_28 ?_
        refine lv_iload_n hx hb dX8_starts_31 rfl (lv_at hl 2 rfl) ?_
        obtain ⟨h_4, hok⟩ := hok
        refine va_zald (f := (S.2 5)) hx hb hK hP 5 1 rfl rfl h_4 dX8_starts_32 ?_
        refine lv_if_eq (tgt := 65) hx hb dX8_starts_33 (by decide) (fun c_5 => ?_) (fun c_5 => ?_)
        · have hok := okT hok c_5
          have hZ := rsT hZ c_5
          exact w_X8_starts_65 C0 hK hA Z (rs_X8_starts_9 n) (ok_X8_starts_9 n) ih S x1 x2 hok hZ _ _ hP hD hS _ (lv_sub hl [0, 1, 2] rfl)
        · have hok := okF hok c_5
          have hZ := rsF hZ c_5
          refine lv_aload_n hx hb dX8_starts_36 rfl (lv_at hl 0 rfl) ?_
          refine va_get (D := (dC, dI)) (ci := 7) (v := .ref (a 3)) (C := RX8) (T := TX8) (N := 35) hx hb hts iX8_starts_X8 hown hK hP 0 rfl rfl 4 (by decide) (hts (.fieldLink RX8 16 "RiskHouseModel" "started" "[I") (by decide +kernel)) (fun _ h9 => h9) rfl dX8_starts_37 ?_
          refine lv_iload_n hx hb dX8_starts_40 rfl (lv_at hl 1 rfl) ?_
          obtain ⟨h_6, hok⟩ := hok
          refine va_iald (f := (S.2 13)) hx hb hK hP 3 0 rfl rfl h_6 dX8_starts_41 ?_
          refine lv_iconst (v := 1) hx hb dX8_starts_42 (by decide) ?_
          refine lv_icmp_ne (tgt := 65) hx hb dX8_starts_43 (by decide) (fun c_7 => ?_) (fun c_7 => ?_)
          · have hok := okF hok c_7
            have hZ := rsF hZ c_7
            exact w_X8_starts_65 C0 hK hA Z (rs_X8_starts_9 n) (ok_X8_starts_9 n) ih S x1 x2 hok hZ _ _ hP hD hS _ (lv_sub hl [0, 1, 2] rfl)
          · have hok := okT hok c_7
            have hZ := rsT hZ c_7
            refine lv_aload_n hx hb dX8_starts_46 rfl (lv_at hl 0 rfl) ?_
            refine va_get (D := (dC, dI)) (ci := 7) (v := .ref (a 3)) (C := RX8) (T := TX8) (N := 35) hx hb hts iX8_starts_X8 hown hK hP 0 rfl rfl 4 (by decide) (hts (.fieldLink RX8 16 "RiskHouseModel" "started" "[I") (by decide +kernel)) (fun _ h9 => h9) rfl dX8_starts_47 ?_
            refine lv_iload_n hx hb dX8_starts_50 rfl (lv_at hl 1 rfl) ?_
            refine lv_aload_n hx hb dX8_starts_51 rfl (lv_at hl 0 rfl) ?_
            refine lv_iload_n hx hb dX8_starts_52 rfl (lv_at hl 2 rfl) ?_
            obtain ⟨k_8, hok⟩ := hok
            have hFc := wFw (w := mW cI cZ a S) hD hS hA
            refine va_calli (va_runV (As := [.int x2]) (rest := [.int x1, .ref (a 3)]) ⟨hx, hb, hml, hown, hts⟩ (c_X8_runs l dC dI cI cZ a H.size S x2 k_8) (cwV 1 hts gX8_starts_X8_runs rfl rfl rfl (by decide +kernel) ⟨Nat.le_of_ble_eq_true rfl, Nat.le_of_ble_eq_true rfl⟩) ⟨wBl, va_recv hK hP (ci := 7) (q0 := 0) rfl rfl, fun U hU hW => ⟨rfl, by rw [hU], by rw [hU]; exact hP, va_K.moved hW.alike hK, hD.weaken (fun _ _ _ _ => trivial)⟩⟩ rfl rfl hl.1 rfl (lv_room (Nat.le_of_ble_eq_true rfl)) dX8_starts_53 ⟨Nat.zero_le _, Nat.zero_le _⟩) hS (fun q _ h => hFc q h) hFc (fun r u t H1 locs ht hvm hw hB hz1 hk1 hS => ?_)
            obtain ⟨hP, hD⟩ := wJn ht hFc hB.1 hB.2.2
            have e1 : r = (rs_X8_runs S x2).1 := congrArg Prod.fst hw
            have e2 : u = (rs_X8_runs S x2).2 := congrArg Prod.snd hw
            rw [e1]
            rw [e2] at hP hD
            generalize H1 = H at hP hS ⊢
            exact w_X8_starts_56 C0 hK hA Z (rs_X8_starts_9 n) (ok_X8_starts_9 n) ih (rs_X8_runs S x2).2 x1 x2 x1 ((rs_X8_runs S x2).1) hok hZ _ _ hP hD hS _ (lv_sub hl [0, 1, 2] rfl)
def rs_X8_starts (S : St) (x1 : Int32) : St := (rs_X8_starts_9 100 (sA S 13 x1.toNatClampNeg 1) x1 0)
def ok_X8_starts (S : St) (x1 : Int32) : Prop := ((vp_in x1 4) ∧ ok_X8_starts_9 100 (sA S 13 x1.toNatClampNeg 1) x1 0)
set_option maxHeartbeats 4000000 in
set_option maxRecDepth 100000 in
theorem w_X8_starts {p : Program} {l : Launch} {e : Env} {s : State} {m : MethodId} {args : Array Value} {below : List Frame} {meth : Method} {c : Code} {dC : Nat → ClassId} {dI : Nat → Nat → Nat} {cI cZ : ClassId} {a : Nat → Nat} {A : Nat → Prop} (C0 : Cx p s m args meth c RX8 cX8_starts none 3 wsX8_starts) (hK : va_K (dC, dI) vwCl (tI cI cZ) s) (hA : ∀ q, s.heap.size ≤ q → A q) (Z : St) (S : St) (x1 : Int32) (hok : ok_X8_starts S x1) (hZ : rs_X8_starts S x1 = Z) (H : Heap) (locs : List Loc) (hP : va_P (dC, dI) vwCl (mW cI cZ a S) H) (hD : va_D A (mW cI cZ a S)) (hS : va_S A s.heap H locs) (ls : Array Slot) (hl : lv_has ls 3 [(0, .ref (a 0)), (1, .int x1)]) : W p l e rm_X8_starts s m args below meth c H locs 0 0 (MQ below (va_Qv (fun u : St => u = Z) (mWB dC dI cI cZ a A) A) args s 0 0 A) (F0 m 0 ls []) := by
  obtain ⟨hx, hb, hr, hml, hown, hts, hlocks⟩ := id C0
  rw [ok_X8_starts] at hok
  rw [rs_X8_starts] at hZ
  refine lv_aload_n hx hb dX8_starts_0 rfl (lv_at hl 0 rfl) ?_
  refine va_get (D := (dC, dI)) (ci := 7) (v := .ref (a 3)) (C := RX8) (T := TX8) (N := 35) hx hb hts iX8_starts_X8 hown hK hP 0 rfl rfl 4 (by decide) (hts (.fieldLink RX8 16 "RiskHouseModel" "started" "[I") (by decide +kernel)) (fun _ h9 => h9) rfl dX8_starts_1 ?_
  refine lv_iload_n hx hb dX8_starts_4 rfl (lv_at hl 1 rfl) ?_
  refine lv_iconst (v := 1) hx hb dX8_starts_5 (by decide) ?_
  obtain ⟨h_1, hok⟩ := hok
  refine va_iast hx hb hK hP hD hS 3 0 rfl rfl h_1 dX8_starts_6 (fun H locs hP hD hS => ?_)
  have hP : va_P (dC, dI) vwCl (mW cI cZ a (sA S 13 x1.toNatClampNeg 1)) H := hP
  have hD : va_D A (mW cI cZ a (sA S 13 x1.toNatClampNeg 1)) := hD
  refine lv_iconst (v := 0) hx hb dX8_starts_7 (by decide) ?_
  refine lv_istore_n (lv' := [(2, .int 0), (0, .ref (a 0)), (1, .int x1)]) hx hb dX8_starts_8 rfl hl (by decide) rfl (fun ls hl => ?_)
  exact w_X8_starts_9 C0 hK hA Z 100 (sA S 13 x1.toNatClampNeg 1) x1 0 hok hZ _ _ hP hD hS _ (lv_sub hl [1, 2, 0] rfl)
set_option maxHeartbeats 4000000 in
set_option maxRecDepth 100000 in
theorem c_X8_starts (l : Launch) (dC : Nat → ClassId) (dI : Nat → Nat → Nat) (cI cZ : ClassId) (a : Nat → Nat) (sz : Nat) (S : St) (x1 : Int32) (hok : ok_X8_starts S x1) : Met l yX8_starts wsX8_starts rm_X8_starts (va_Pc [.ref (a 0), .int x1] (mWP dC dI cI cZ a sz S)) (va_Qv (fun u : St => u = rs_X8_starts S x1) (mWB dC dI cI cZ a (va_A (mW cI cZ a S) sz)) (va_A (mW cI cZ a S) sz)) 0 0 (va_A (mW cI cZ a S) sz) := by
  refine Met.ofW (cc := cX8_starts) (maxL := 3) (ret := none) (by decide) rfl ?_
  intro p e s m args below meth c s₁ B hml hv
  obtain ⟨rfl, hsz, hP, hK, hD0⟩ := hv
  subst hsz
  have hD := hD0.self (sz := s.heap.size)
  have hl := lv_entry ([.ref (a 0), .int x1]) (n := 3) (Nat.le_of_ble_eq_true rfl)
  rw [lg_entry_eq]
  generalize (lg_sl ([.ref (a 0), .int x1]) ++ List.replicate (3 - (lg_sl ([.ref (a 0), .int x1])).length) Slot.unset).toArray = ls at hl ⊢
  have hl : lv_has ls 3 [(0, .ref (a 0)), (1, .int x1)] := hl
  exact w_X8_starts ⟨B.exec, B.bytes, B.returns, hml, findClass_of_methodNamed B.named, atoms_spec (ws := wsX8_starts) B.pre, B.notSynchronized⟩ hK (fun q h => Or.inr h) _ S x1 hok rfl _ _ hP hD va_S.rf ls hl
abbrev rm_X8_held : Room := { frames := 0, cells := 0, slots := 0, locals := 0 }
def rs_X8_held (x0 : Int32) (x1 : Int32) : Int32 := (if 0 ≤ x0 then (if x0 ≤ x1 then x0 else x1) else 0)
def ok_X8_held (x0 : Int32) (x1 : Int32) : Prop := (if 0 ≤ x0 then (if x0 ≤ x1 then True else True) else True)
set_option maxHeartbeats 4000000 in
set_option maxRecDepth 100000 in
theorem w_X8_held {p : Program} {l : Launch} {e : Env} {s : State} {m : MethodId} {args : Array Value} {below : List Frame} {meth : Method} {c : Code} {A : Nat → Prop} (C0 : Cx p s m args meth c RX8 cX8_held (some .int) 2 wsX8_held) (hA : ∀ q, s.heap.size ≤ q → A q) (Z : Int32) (x0 : Int32) (x1 : Int32) (hok : ok_X8_held x0 x1) (hZ : rs_X8_held x0 x1 = Z) (H : Heap) (locs : List Loc) (hS : va_S A s.heap H locs) (ls : Array Slot) (hl : lv_has ls 2 [(0, .int x0), (1, .int x1)]) : W p l e rm_X8_held s m args below meth c H locs 0 0 (MQ below (va_Qi (fun (r : Int32) (_ : Unit) => r = Z) (fun _ _ => True) A) args s 0 0 A) (F0 m 0 ls []) := by
  obtain ⟨hx, hb, hr, hml, hown, hts, hlocks⟩ := id C0
  rw [ok_X8_held] at hok
  rw [rs_X8_held] at hZ
  refine lv_iload_n hx hb dX8_held_0 rfl (lv_at hl 0 rfl) ?_
  refine lv_if_ge (tgt := 8) hx hb dX8_held_1 (by decide) (fun c_1 => ?_) (fun c_1 => ?_)
  · have hok := okT hok c_1
    have hZ := rsT hZ c_1
    refine lv_iload_n hx hb dX8_held_8 rfl (lv_at hl 0 rfl) ?_
    refine lv_iload_n hx hb dX8_held_9 rfl (lv_at hl 1 rfl) ?_
    refine lv_icmp_le (tgt := 17) hx hb dX8_held_10 (by decide) (fun c_2 => ?_) (fun c_2 => ?_)
    · have hok := okT hok c_2
      have hZ := rsT hZ c_2
      refine lv_iload_n hx hb dX8_held_17 rfl (lv_at hl 0 rfl) ?_
      exact W.iret (v := x0) hx hb hr (fun t ht hW => ⟨⟨x0, (), rfl, hZ, trivial⟩, hS.F ht⟩) hS.2.2 dX8_held_18 hlocks
    · have hok := okF hok c_2
      have hZ := rsF hZ c_2
      refine lv_iload_n hx hb dX8_held_13 rfl (lv_at hl 1 rfl) ?_
      refine lv_goto (tgt := 18) hx hb dX8_held_14 (by decide) ?_
      exact W.iret (v := x1) hx hb hr (fun t ht hW => ⟨⟨x1, (), rfl, hZ, trivial⟩, hS.F ht⟩) hS.2.2 dX8_held_18 hlocks
  · have hok := okF hok c_1
    have hZ := rsF hZ c_1
    refine lv_iconst (v := 0) hx hb dX8_held_4 (by decide) ?_
    refine lv_goto (tgt := 18) hx hb dX8_held_5 (by decide) ?_
    exact W.iret (v := 0) hx hb hr (fun t ht hW => ⟨⟨0, (), rfl, hZ, trivial⟩, hS.F ht⟩) hS.2.2 dX8_held_18 hlocks
set_option maxHeartbeats 4000000 in
set_option maxRecDepth 100000 in
theorem c_X8_held (l : Launch) (sz : Nat) (x0 : Int32) (x1 : Int32) (hok : ok_X8_held x0 x1) : Met l yX8_held wsX8_held rm_X8_held (va_Pc [.int x0, .int x1] (fun U => U.heap.size = sz)) (va_Qi (fun (r : Int32) (_ : Unit) => r = rs_X8_held x0 x1) (fun _ _ => True) (va_A [] sz)) 0 0 (va_A [] sz) := by
  refine Met.ofW (cc := cX8_held) (maxL := 2) (ret := (some .int)) (by decide) rfl ?_
  intro p e s m args below meth c s₁ B hml hv
  obtain ⟨rfl, hsz⟩ := hv
  subst hsz
  have hl := lv_entry ([.int x0, .int x1]) (n := 2) (Nat.le_of_ble_eq_true rfl)
  rw [lg_entry_eq]
  generalize (lg_sl ([.int x0, .int x1]) ++ List.replicate (2 - (lg_sl ([.int x0, .int x1])).length) Slot.unset).toArray = ls at hl ⊢
  have hl : lv_has ls 2 [(0, .int x0), (1, .int x1)] := hl
  exact w_X8_held ⟨B.exec, B.bytes, B.returns, hml, findClass_of_methodNamed B.named, atoms_spec (ws := wsX8_held) B.pre, B.notSynchronized⟩ (fun q h => Or.inr h) _ x0 x1 hok rfl _ _ va_S.rf ls hl
abbrev rm_X8_ask : Room := { frames := 5, cells := 0, slots := 0, locals := 112 }
theorem iX8_ask_X8 : ∀ w ∈ wsX80, w ∈ wsX8_ask := by decide +kernel
def rs_X8_ask_12 (S : St) (z0 : Int32) : Int32 × St := (z0, S)
def ok_X8_ask_12 (S : St) (z0 : Int32) : Prop := True
set_option maxHeartbeats 4000000 in
set_option maxRecDepth 100000 in
theorem w_X8_ask_12 {p : Program} {l : Launch} {e : Env} {s : State} {m : MethodId} {args : Array Value} {below : List Frame} {meth : Method} {c : Code} {dC : Nat → ClassId} {dI : Nat → Nat → Nat} {cI cZ : ClassId} {a : Nat → Nat} {A : Nat → Prop} (C0 : Cx p s m args meth c RX8 cX8_ask (some .int) 5 wsX8_ask) (hK : va_K (dC, dI) vwCl (tI cI cZ) s) (hA : ∀ q, s.heap.size ≤ q → A q) (Z : Int32 × St) (S : St) (z0 : Int32) (hok : ok_X8_ask_12 S z0) (hZ : rs_X8_ask_12 S z0 = Z) (H : Heap) (locs : List Loc) (hP : va_P (dC, dI) vwCl (mW cI cZ a S) H) (hD : va_D A (mW cI cZ a S)) (hS : va_S A s.heap H locs) (ls : Array Slot) (hl : lv_has ls 5 []) : W p l e rm_X8_ask s m args below meth c H locs 0 0 (MQ below (va_Qi (fun (r : Int32) (u : St) => (r, u) = Z) (mWB dC dI cI cZ a A) A) args s 0 0 A) (F0 m 12 ls [.int z0]) := by
  obtain ⟨hx, hb, hr, hml, hown, hts, hlocks⟩ := id C0
  rw [ok_X8_ask_12] at hok
  rw [rs_X8_ask_12] at hZ
  exact W.iret (v := z0) hx hb hr (fun t ht hW => ⟨⟨z0, S, rfl, hZ, by rw [ht]; exact hP, va_K.moved hW.alike hK, hD⟩, hS.F ht⟩) hS.2.2 dX8_ask_12 hlocks
def rs_X8_ask_27 (S : St) (z0 : Int32) : Int32 × St := (z0, S)
def ok_X8_ask_27 (S : St) (z0 : Int32) : Prop := True
set_option maxHeartbeats 4000000 in
set_option maxRecDepth 100000 in
theorem w_X8_ask_27 {p : Program} {l : Launch} {e : Env} {s : State} {m : MethodId} {args : Array Value} {below : List Frame} {meth : Method} {c : Code} {dC : Nat → ClassId} {dI : Nat → Nat → Nat} {cI cZ : ClassId} {a : Nat → Nat} {A : Nat → Prop} (C0 : Cx p s m args meth c RX8 cX8_ask (some .int) 5 wsX8_ask) (hK : va_K (dC, dI) vwCl (tI cI cZ) s) (hA : ∀ q, s.heap.size ≤ q → A q) (Z : Int32 × St) (S : St) (z0 : Int32) (hok : ok_X8_ask_27 S z0) (hZ : rs_X8_ask_27 S z0 = Z) (H : Heap) (locs : List Loc) (hP : va_P (dC, dI) vwCl (mW cI cZ a S) H) (hD : va_D A (mW cI cZ a S)) (hS : va_S A s.heap H locs) (ls : Array Slot) (hl : lv_has ls 5 []) : W p l e rm_X8_ask s m args below meth c H locs 0 0 (MQ below (va_Qi (fun (r : Int32) (u : St) => (r, u) = Z) (mWB dC dI cI cZ a A) A) args s 0 0 A) (F0 m 27 ls [.int z0]) := by
  obtain ⟨hx, hb, hr, hml, hown, hts, hlocks⟩ := id C0
  rw [ok_X8_ask_27] at hok
  rw [rs_X8_ask_27] at hZ
  exact W.iret (v := z0) hx hb hr (fun t ht hW => ⟨⟨z0, S, rfl, hZ, by rw [ht]; exact hP, va_K.moved hW.alike hK, hD⟩, hS.F ht⟩) hS.2.2 dX8_ask_27 hlocks
def rs_X8_ask_72 (k : St → Int32 → Int32 → Int32 × St) (S : St) (x1 : Int32) (x2 : Int32) : Int32 × St := (k S x1 (x2 + 1))
def ok_X8_ask_72 (kk : St → Int32 → Int32 → Prop) (S : St) (x1 : Int32) (x2 : Int32) : Prop := kk S x1 (x2 + 1)
set_option maxHeartbeats 4000000 in
set_option maxRecDepth 100000 in
theorem w_X8_ask_72 {p : Program} {l : Launch} {e : Env} {s : State} {m : MethodId} {args : Array Value} {below : List Frame} {meth : Method} {c : Code} {dC : Nat → ClassId} {dI : Nat → Nat → Nat} {cI cZ : ClassId} {a : Nat → Nat} {A : Nat → Prop} (C0 : Cx p s m args meth c RX8 cX8_ask (some .int) 5 wsX8_ask) (hK : va_K (dC, dI) vwCl (tI cI cZ) s) (hA : ∀ q, s.heap.size ≤ q → A q) (Z : Int32 × St) (k : St → Int32 → Int32 → Int32 × St) (kk : St → Int32 → Int32 → Prop) (hk : ∀ (S : St) (x1 : Int32) (x2 : Int32) (hok : kk S x1 x2) (hZ : k S x1 x2 = Z) (H : Heap) (locs : List Loc) (hP : va_P (dC, dI) vwCl (mW cI cZ a S) H) (hD : va_D A (mW cI cZ a S)) (hS : va_S A s.heap H locs) (ls : Array Slot) (hl : lv_has ls 5 [(0, .ref (a 0)), (1, .int x1), (2, .int x2)]), W p l e rm_X8_ask s m args below meth c H locs 0 0 (MQ below (va_Qi (fun (r : Int32) (u : St) => (r, u) = Z) (mWB dC dI cI cZ a A) A) args s 0 0 A) (F0 m 45 ls [])) (S : St) (x1 : Int32) (x2 : Int32) (hok : ok_X8_ask_72 kk S x1 x2) (hZ : rs_X8_ask_72 k S x1 x2 = Z) (H : Heap) (locs : List Loc) (hP : va_P (dC, dI) vwCl (mW cI cZ a S) H) (hD : va_D A (mW cI cZ a S)) (hS : va_S A s.heap H locs) (ls : Array Slot) (hl : lv_has ls 5 [(0, .ref (a 0)), (1, .int x1), (2, .int x2)]) : W p l e rm_X8_ask s m args below meth c H locs 0 0 (MQ below (va_Qi (fun (r : Int32) (u : St) => (r, u) = Z) (mWB dC dI cI cZ a A) A) args s 0 0 A) (F0 m 72 ls []) := by
  obtain ⟨hx, hb, hr, hml, hown, hts, hlocks⟩ := id C0
  rw [ok_X8_ask_72] at hok
  rw [rs_X8_ask_72] at hZ
  refine lv_iinc (v := (x2 + 1)) (lv' := [(2, .int (x2 + 1)), (0, .ref (a 0)), (1, .int x1)]) hx hb dX8_ask_72 hl (k := 2) rfl rfl (by decide) rfl (fun ls hl => ?_)
  refine lv_goto (tgt := 45) hx hb dX8_ask_75 (by decide) ?_
  exact hk S x1 (x2 + 1) hok hZ _ _ hP hD hS _ (lv_sub hl [1, 2, 0] rfl)
def rs_X8_ask_64 (k : St → Int32 → Int32 → Int32 × St) (S : St) (x1 : Int32) (x2 : Int32) (z0 : Int32) : Int32 × St := (if z0 ≤ 0 then (rs_X8_ask_72 k S x1 x2) else (rs_X8_ask_72 k (rs_X8_starts S x2) x1 x2))
def ok_X8_ask_64 (kk : St → Int32 → Int32 → Prop) (S : St) (x1 : Int32) (x2 : Int32) (z0 : Int32) : Prop := (if z0 ≤ 0 then ok_X8_ask_72 kk S x1 x2 else ((ok_X8_starts S x2) ∧ ok_X8_ask_72 kk (rs_X8_starts S x2) x1 x2))
set_option maxHeartbeats 4000000 in
set_option maxRecDepth 100000 in
theorem w_X8_ask_64 {p : Program} {l : Launch} {e : Env} {s : State} {m : MethodId} {args : Array Value} {below : List Frame} {meth : Method} {c : Code} {dC : Nat → ClassId} {dI : Nat → Nat → Nat} {cI cZ : ClassId} {a : Nat → Nat} {A : Nat → Prop} (C0 : Cx p s m args meth c RX8 cX8_ask (some .int) 5 wsX8_ask) (hK : va_K (dC, dI) vwCl (tI cI cZ) s) (hA : ∀ q, s.heap.size ≤ q → A q) (Z : Int32 × St) (k : St → Int32 → Int32 → Int32 × St) (kk : St → Int32 → Int32 → Prop) (hk : ∀ (S : St) (x1 : Int32) (x2 : Int32) (hok : kk S x1 x2) (hZ : k S x1 x2 = Z) (H : Heap) (locs : List Loc) (hP : va_P (dC, dI) vwCl (mW cI cZ a S) H) (hD : va_D A (mW cI cZ a S)) (hS : va_S A s.heap H locs) (ls : Array Slot) (hl : lv_has ls 5 [(0, .ref (a 0)), (1, .int x1), (2, .int x2)]), W p l e rm_X8_ask s m args below meth c H locs 0 0 (MQ below (va_Qi (fun (r : Int32) (u : St) => (r, u) = Z) (mWB dC dI cI cZ a A) A) args s 0 0 A) (F0 m 45 ls [])) (S : St) (x1 : Int32) (x2 : Int32) (z0 : Int32) (hok : ok_X8_ask_64 kk S x1 x2 z0) (hZ : rs_X8_ask_64 k S x1 x2 z0 = Z) (H : Heap) (locs : List Loc) (hP : va_P (dC, dI) vwCl (mW cI cZ a S) H) (hD : va_D A (mW cI cZ a S)) (hS : va_S A s.heap H locs) (ls : Array Slot) (hl : lv_has ls 5 [(0, .ref (a 0)), (1, .int x1), (2, .int x2)]) : W p l e rm_X8_ask s m args below meth c H locs 0 0 (MQ below (va_Qi (fun (r : Int32) (u : St) => (r, u) = Z) (mWB dC dI cI cZ a A) A) args s 0 0 A) (F0 m 64 ls [.int z0]) := by
  obtain ⟨hx, hb, hr, hml, hown, hts, hlocks⟩ := id C0
  rw [ok_X8_ask_64] at hok
  rw [rs_X8_ask_64] at hZ
  refine lv_if_le (tgt := 72) hx hb dX8_ask_64 (by decide) (fun c_1 => ?_) (fun c_1 => ?_)
  · have hok := okT hok c_1
    have hZ := rsT hZ c_1
    exact w_X8_ask_72 C0 hK hA Z k kk hk S x1 x2 hok hZ _ _ hP hD hS _ (lv_sub hl [0, 1, 2] rfl)
  · have hok := okF hok c_1
    have hZ := rsF hZ c_1
    refine lv_aload_n hx hb dX8_ask_67 rfl (lv_at hl 0 rfl) ?_
    refine lv_iload_n hx hb dX8_ask_68 rfl (lv_at hl 2 rfl) ?_
    obtain ⟨k_2, hok⟩ := hok
    have hFc := wFw (w := mW cI cZ a S) hD hS hA
    refine va_callv (va_runV (As := [.int x2]) (rest := []) ⟨hx, hb, hml, hown, hts⟩ (c_X8_starts l dC dI cI cZ a H.size S x2 k_2) (cwV 1 hts gX8_ask_X8_starts rfl rfl rfl (by decide +kernel) ⟨Nat.le_of_ble_eq_true rfl, Nat.le_of_ble_eq_true rfl⟩) ⟨wBl, va_recv hK hP (ci := 7) (q0 := 0) rfl rfl, fun U hU hW => ⟨rfl, by rw [hU], by rw [hU]; exact hP, va_K.moved hW.alike hK, hD.weaken (fun _ _ _ _ => trivial)⟩⟩ rfl rfl hl.1 rfl (lv_room (Nat.le_of_ble_eq_true rfl)) dX8_ask_69 ⟨Nat.zero_le _, Nat.zero_le _⟩) hS (fun q _ h => hFc q h) hFc (fun u t H1 locs ht hvm hw hB hz1 hk1 hS => ?_)
    obtain ⟨hP, hD⟩ := wJn ht hFc hB.1 hB.2.2
    rw [hw] at hP hD
    generalize H1 = H at hP hS ⊢
    exact w_X8_ask_72 C0 hK hA Z k kk hk (rs_X8_starts S x2) x1 x2 hok hZ _ _ hP hD hS _ (lv_sub hl [0, 1, 2] rfl)
def rs_X8_ask_150 (k : St → Int32 → Int32 → Int32 → Int32 × St) (S : St) (x1 : Int32) (x3 : Int32) (z0 : Int32) (z1 : Int32) : Int32 × St := (k S x1 (z0 + z1) (x3 + 1))
def ok_X8_ask_150 (kk : St → Int32 → Int32 → Int32 → Prop) (S : St) (x1 : Int32) (x3 : Int32) (z0 : Int32) (z1 : Int32) : Prop := kk S x1 (z0 + z1) (x3 + 1)
set_option maxHeartbeats 4000000 in
set_option maxRecDepth 100000 in
theorem w_X8_ask_150 {p : Program} {l : Launch} {e : Env} {s : State} {m : MethodId} {args : Array Value} {below : List Frame} {meth : Method} {c : Code} {dC : Nat → ClassId} {dI : Nat → Nat → Nat} {cI cZ : ClassId} {a : Nat → Nat} {A : Nat → Prop} (C0 : Cx p s m args meth c RX8 cX8_ask (some .int) 5 wsX8_ask) (hK : va_K (dC, dI) vwCl (tI cI cZ) s) (hA : ∀ q, s.heap.size ≤ q → A q) (Z : Int32 × St) (k : St → Int32 → Int32 → Int32 → Int32 × St) (kk : St → Int32 → Int32 → Int32 → Prop) (hk : ∀ (S : St) (x1 : Int32) (x2 : Int32) (x3 : Int32) (hok : kk S x1 x2 x3) (hZ : k S x1 x2 x3 = Z) (H : Heap) (locs : List Loc) (hP : va_P (dC, dI) vwCl (mW cI cZ a S) H) (hD : va_D A (mW cI cZ a S)) (hS : va_S A s.heap H locs) (ls : Array Slot) (hl : lv_has ls 5 [(0, .ref (a 0)), (1, .int x1), (2, .int x2), (3, .int x3)]), W p l e rm_X8_ask s m args below meth c H locs 0 0 (MQ below (va_Qi (fun (r : Int32) (u : St) => (r, u) = Z) (mWB dC dI cI cZ a A) A) args s 0 0 A) (F0 m 82 ls [])) (S : St) (x1 : Int32) (x3 : Int32) (z0 : Int32) (z1 : Int32) (hok : ok_X8_ask_150 kk S x1 x3 z0 z1) (hZ : rs_X8_ask_150 k S x1 x3 z0 z1 = Z) (H : Heap) (locs : List Loc) (hP : va_P (dC, dI) vwCl (mW cI cZ a S) H) (hD : va_D A (mW cI cZ a S)) (hS : va_S A s.heap H locs) (ls : Array Slot) (hl : lv_has ls 5 [(0, .ref (a 0)), (1, .int x1), (3, .int x3)]) : W p l e rm_X8_ask s m args below meth c H locs 0 0 (MQ below (va_Qi (fun (r : Int32) (u : St) => (r, u) = Z) (mWB dC dI cI cZ a A) A) args s 0 0 A) (F0 m 150 ls [.int z1, .int z0]) := by
  obtain ⟨hx, hb, hr, hml, hown, hts, hlocks⟩ := id C0
  rw [ok_X8_ask_150] at hok
  rw [rs_X8_ask_150] at hZ
  refine lv_iadd hx hb dX8_ask_150 ?_
  refine lv_istore_n (lv' := [(2, .int (z0 + z1)), (0, .ref (a 0)), (1, .int x1), (3, .int x3)]) hx hb dX8_ask_151 rfl hl (by decide) rfl (fun ls hl => ?_)
  refine lv_iinc (v := (x3 + 1)) (lv' := [(3, .int (x3 + 1)), (2, .int (z0 + z1)), (0, .ref (a 0)), (1, .int x1)]) hx hb dX8_ask_152 hl (k := 3) rfl rfl (by decide) rfl (fun ls hl => ?_)
  refine lv_goto (tgt := 82) hx hb dX8_ask_155 (by decide) ?_
  exact hk S x1 (z0 + z1) (x3 + 1) hok hZ _ _ hP hD hS _ (lv_sub hl [2, 3, 1, 0] rfl)
def rs_X8_ask_149 (k : St → Int32 → Int32 → Int32 → Int32 × St) (S : St) (x1 : Int32) (x3 : Int32) (z0 : Int32) : Int32 × St := (rs_X8_ask_150 k S x1 x3 z0 0)
def ok_X8_ask_149 (kk : St → Int32 → Int32 → Int32 → Prop) (S : St) (x1 : Int32) (x3 : Int32) (z0 : Int32) : Prop := ok_X8_ask_150 kk S x1 x3 z0 0
set_option maxHeartbeats 4000000 in
set_option maxRecDepth 100000 in
theorem w_X8_ask_149 {p : Program} {l : Launch} {e : Env} {s : State} {m : MethodId} {args : Array Value} {below : List Frame} {meth : Method} {c : Code} {dC : Nat → ClassId} {dI : Nat → Nat → Nat} {cI cZ : ClassId} {a : Nat → Nat} {A : Nat → Prop} (C0 : Cx p s m args meth c RX8 cX8_ask (some .int) 5 wsX8_ask) (hK : va_K (dC, dI) vwCl (tI cI cZ) s) (hA : ∀ q, s.heap.size ≤ q → A q) (Z : Int32 × St) (k : St → Int32 → Int32 → Int32 → Int32 × St) (kk : St → Int32 → Int32 → Int32 → Prop) (hk : ∀ (S : St) (x1 : Int32) (x2 : Int32) (x3 : Int32) (hok : kk S x1 x2 x3) (hZ : k S x1 x2 x3 = Z) (H : Heap) (locs : List Loc) (hP : va_P (dC, dI) vwCl (mW cI cZ a S) H) (hD : va_D A (mW cI cZ a S)) (hS : va_S A s.heap H locs) (ls : Array Slot) (hl : lv_has ls 5 [(0, .ref (a 0)), (1, .int x1), (2, .int x2), (3, .int x3)]), W p l e rm_X8_ask s m args below meth c H locs 0 0 (MQ below (va_Qi (fun (r : Int32) (u : St) => (r, u) = Z) (mWB dC dI cI cZ a A) A) args s 0 0 A) (F0 m 82 ls [])) (S : St) (x1 : Int32) (x3 : Int32) (z0 : Int32) (hok : ok_X8_ask_149 kk S x1 x3 z0) (hZ : rs_X8_ask_149 k S x1 x3 z0 = Z) (H : Heap) (locs : List Loc) (hP : va_P (dC, dI) vwCl (mW cI cZ a S) H) (hD : va_D A (mW cI cZ a S)) (hS : va_S A s.heap H locs) (ls : Array Slot) (hl : lv_has ls 5 [(0, .ref (a 0)), (1, .int x1), (3, .int x3)]) : W p l e rm_X8_ask s m args below meth c H locs 0 0 (MQ below (va_Qi (fun (r : Int32) (u : St) => (r, u) = Z) (mWB dC dI cI cZ a A) A) args s 0 0 A) (F0 m 149 ls [.int z0]) := by
  obtain ⟨hx, hb, hr, hml, hown, hts, hlocks⟩ := id C0
  rw [ok_X8_ask_149] at hok
  rw [rs_X8_ask_149] at hZ
  refine lv_iconst (v := 0) hx hb dX8_ask_149 (by decide) ?_
  exact w_X8_ask_150 C0 hK hA Z k kk hk S x1 x3 z0 0 hok hZ _ _ hP hD hS _ (lv_sub hl [0, 1, 2] rfl)
def rs_X8_ask_132 (k : St → Int32 → Int32 → Int32 → Int32 × St) (S : St) (x1 : Int32) (x3 : Int32) (z0 : Int32) (z1 : Int32) : Int32 × St := (if z1 = 0 then (rs_X8_ask_149 k S x1 x3 z0) else (rs_X8_ask_150 k S x1 x3 z0 (rs_X8_held ((S.2 7) x3.toNatClampNeg) 100)))
def ok_X8_ask_132 (kk : St → Int32 → Int32 → Int32 → Prop) (S : St) (x1 : Int32) (x3 : Int32) (z0 : Int32) (z1 : Int32) : Prop := (if z1 = 0 then ok_X8_ask_149 kk S x1 x3 z0 else ((vp_in x3 12) ∧ ((ok_X8_held ((S.2 7) x3.toNatClampNeg) 100) ∧ ok_X8_ask_150 kk S x1 x3 z0 (rs_X8_held ((S.2 7) x3.toNatClampNeg) 100))))
set_option maxHeartbeats 4000000 in
set_option maxRecDepth 100000 in
theorem w_X8_ask_132 {p : Program} {l : Launch} {e : Env} {s : State} {m : MethodId} {args : Array Value} {below : List Frame} {meth : Method} {c : Code} {dC : Nat → ClassId} {dI : Nat → Nat → Nat} {cI cZ : ClassId} {a : Nat → Nat} {A : Nat → Prop} (C0 : Cx p s m args meth c RX8 cX8_ask (some .int) 5 wsX8_ask) (hK : va_K (dC, dI) vwCl (tI cI cZ) s) (hA : ∀ q, s.heap.size ≤ q → A q) (Z : Int32 × St) (k : St → Int32 → Int32 → Int32 → Int32 × St) (kk : St → Int32 → Int32 → Int32 → Prop) (hk : ∀ (S : St) (x1 : Int32) (x2 : Int32) (x3 : Int32) (hok : kk S x1 x2 x3) (hZ : k S x1 x2 x3 = Z) (H : Heap) (locs : List Loc) (hP : va_P (dC, dI) vwCl (mW cI cZ a S) H) (hD : va_D A (mW cI cZ a S)) (hS : va_S A s.heap H locs) (ls : Array Slot) (hl : lv_has ls 5 [(0, .ref (a 0)), (1, .int x1), (2, .int x2), (3, .int x3)]), W p l e rm_X8_ask s m args below meth c H locs 0 0 (MQ below (va_Qi (fun (r : Int32) (u : St) => (r, u) = Z) (mWB dC dI cI cZ a A) A) args s 0 0 A) (F0 m 82 ls [])) (S : St) (x1 : Int32) (x3 : Int32) (z0 : Int32) (z1 : Int32) (hok : ok_X8_ask_132 kk S x1 x3 z0 z1) (hZ : rs_X8_ask_132 k S x1 x3 z0 z1 = Z) (H : Heap) (locs : List Loc) (hP : va_P (dC, dI) vwCl (mW cI cZ a S) H) (hD : va_D A (mW cI cZ a S)) (hS : va_S A s.heap H locs) (ls : Array Slot) (hl : lv_has ls 5 [(0, .ref (a 0)), (1, .int x1), (3, .int x3)]) : W p l e rm_X8_ask s m args below meth c H locs 0 0 (MQ below (va_Qi (fun (r : Int32) (u : St) => (r, u) = Z) (mWB dC dI cI cZ a A) A) args s 0 0 A) (F0 m 132 ls [.int z1, .int z0]) := by
  obtain ⟨hx, hb, hr, hml, hown, hts, hlocks⟩ := id C0
  rw [ok_X8_ask_132] at hok
  rw [rs_X8_ask_132] at hZ
  refine lv_if_eq (tgt := 149) hx hb dX8_ask_132 (by decide) (fun c_1 => ?_) (fun c_1 => ?_)
  · have hok := okT hok c_1
    have hZ := rsT hZ c_1
    exact w_X8_ask_149 C0 hK hA Z k kk hk S x1 x3 z0 hok hZ _ _ hP hD hS _ (lv_sub hl [0, 1, 2] rfl)
  · have hok := okF hok c_1
    have hZ := rsF hZ c_1
    refine lv_aload_n hx hb dX8_ask_135 rfl (lv_at hl 0 rfl) ?_
    refine va_get (D := (dC, dI)) (ci := 7) (v := .ref (a 9)) (C := RX8) (T := TX8) (N := 35) hx hb hts iX8_ask_X8 hown hK hP 0 rfl rfl 11 (by decide) (hts (.fieldLink RX8 35 "RiskHouseModel" "value" "[I") (by decide +kernel)) (fun _ h9 => h9) rfl dX8_ask_136 ?_
    refine lv_iload_n hx hb dX8_ask_139 rfl (lv_at hl 2 rfl) ?_
    obtain ⟨h_2, hok⟩ := hok
    refine va_iald (f := (S.2 7)) hx hb hK hP 9 0 rfl rfl h_2 dX8_ask_140 ?_
    refine lv_bipush (v := 100) hx hb dX8_ask_141 (by decide) ?_
    obtain ⟨k_3, hok⟩ := hok
    have hFc := wFr hS hA
    refine va_calli (va_runS (As := [.int ((S.2 7) x3.toNatClampNeg), .int 100]) (rest := [.int z0]) ⟨hx, hb, hml, hown, hts⟩ (c_X8_held l H.size ((S.2 7) x3.toNatClampNeg) 100 k_3) (va_cwS 2 hts gX8_ask_X8_held rfl rfl rfl (by decide +kernel) ⟨Nat.le_of_ble_eq_true rfl, Nat.le_of_ble_eq_true rfl⟩) ⟨fun a9 U g9 mk9 q9 => q9, fun U hU hW => ⟨rfl, congrArg Array.size hU⟩⟩ rfl rfl hl.1 rfl (lv_room (Nat.le_of_ble_eq_true rfl)) dX8_ask_143 ⟨Nat.zero_le _, Nat.zero_le _⟩) hS (fun q _ h => hFc q h) hFc (fun r u t H1 locs ht hvm hw hB hz1 hk1 hS => ?_)
    have hP := wKp hP hk1
    subst hw
    generalize H1 = H at hP hS ⊢
    refine lv_goto (tgt := 150) hx hb dX8_ask_146 (by decide) ?_
    exact w_X8_ask_150 C0 hK hA Z k kk hk S x1 x3 z0 (rs_X8_held ((S.2 7) x3.toNatClampNeg) 100) hok hZ _ _ hP hD hS _ (lv_sub hl [0, 1, 2] rfl)
def rs_X8_ask_119 (k : St → Int32 → Int32 → Int32 → Int32 × St) (S : St) (x1 : Int32) (x2 : Int32) (x3 : Int32) (z0 : Int32) : Int32 × St := (if z0 = 0 then (rs_X8_ask_149 k S x1 x3 x2) else (rs_X8_ask_132 k (rs_X8_runs S x3).2 x1 x3 x2 ((rs_X8_runs S x3).1)))
def ok_X8_ask_119 (kk : St → Int32 → Int32 → Int32 → Prop) (S : St) (x1 : Int32) (x2 : Int32) (x3 : Int32) (z0 : Int32) : Prop := (if z0 = 0 then ok_X8_ask_149 kk S x1 x3 x2 else ((ok_X8_runs S x3) ∧ ok_X8_ask_132 kk (rs_X8_runs S x3).2 x1 x3 x2 ((rs_X8_runs S x3).1)))
set_option maxHeartbeats 4000000 in
set_option maxRecDepth 100000 in
theorem w_X8_ask_119 {p : Program} {l : Launch} {e : Env} {s : State} {m : MethodId} {args : Array Value} {below : List Frame} {meth : Method} {c : Code} {dC : Nat → ClassId} {dI : Nat → Nat → Nat} {cI cZ : ClassId} {a : Nat → Nat} {A : Nat → Prop} (C0 : Cx p s m args meth c RX8 cX8_ask (some .int) 5 wsX8_ask) (hK : va_K (dC, dI) vwCl (tI cI cZ) s) (hA : ∀ q, s.heap.size ≤ q → A q) (Z : Int32 × St) (k : St → Int32 → Int32 → Int32 → Int32 × St) (kk : St → Int32 → Int32 → Int32 → Prop) (hk : ∀ (S : St) (x1 : Int32) (x2 : Int32) (x3 : Int32) (hok : kk S x1 x2 x3) (hZ : k S x1 x2 x3 = Z) (H : Heap) (locs : List Loc) (hP : va_P (dC, dI) vwCl (mW cI cZ a S) H) (hD : va_D A (mW cI cZ a S)) (hS : va_S A s.heap H locs) (ls : Array Slot) (hl : lv_has ls 5 [(0, .ref (a 0)), (1, .int x1), (2, .int x2), (3, .int x3)]), W p l e rm_X8_ask s m args below meth c H locs 0 0 (MQ below (va_Qi (fun (r : Int32) (u : St) => (r, u) = Z) (mWB dC dI cI cZ a A) A) args s 0 0 A) (F0 m 82 ls [])) (S : St) (x1 : Int32) (x2 : Int32) (x3 : Int32) (z0 : Int32) (hok : ok_X8_ask_119 kk S x1 x2 x3 z0) (hZ : rs_X8_ask_119 k S x1 x2 x3 z0 = Z) (H : Heap) (locs : List Loc) (hP : va_P (dC, dI) vwCl (mW cI cZ a S) H) (hD : va_D A (mW cI cZ a S)) (hS : va_S A s.heap H locs) (ls : Array Slot) (hl : lv_has ls 5 [(0, .ref (a 0)), (1, .int x1), (2, .int x2), (3, .int x3)]) : W p l e rm_X8_ask s m args below meth c H locs 0 0 (MQ below (va_Qi (fun (r : Int32) (u : St) => (r, u) = Z) (mWB dC dI cI cZ a A) A) args s 0 0 A) (F0 m 119 ls [.int z0]) := by
  obtain ⟨hx, hb, hr, hml, hown, hts, hlocks⟩ := id C0
  rw [ok_X8_ask_119] at hok
  rw [rs_X8_ask_119] at hZ
  refine lv_istore (lv' := [(4, .int z0), (0, .ref (a 0)), (1, .int x1), (2, .int x2), (3, .int x3)]) hx hb dX8_ask_119 hl (by decide) rfl (fun ls hl => ?_)
  refine lv_iload_n hx hb dX8_ask_121 rfl (lv_at hl 3 rfl) ?_
  refine lv_iload hx hb dX8_ask_122 (lv_at hl 0 rfl) ?_
  refine lv_if_eq (tgt := 149) hx hb dX8_ask_124 (by decide) (fun c_1 => ?_) (fun c_1 => ?_)
  · have hok := okT hok c_1
    have hZ := rsT hZ c_1
    exact w_X8_ask_149 C0 hK hA Z k kk hk S x1 x3 x2 hok hZ _ _ hP hD hS _ (lv_sub hl [1, 2, 4] rfl)
  · have hok := okF hok c_1
    have hZ := rsF hZ c_1
    refine lv_aload_n hx hb dX8_ask_127 rfl (lv_at hl 1 rfl) ?_
    refine lv_iload_n hx hb dX8_ask_128 rfl (lv_at hl 4 rfl) ?_
    obtain ⟨k_2, hok⟩ := hok
    have hFc := wFw (w := mW cI cZ a S) hD hS hA
    refine va_calli (va_runV (As := [.int x3]) (rest := [.int x2]) ⟨hx, hb, hml, hown, hts⟩ (c_X8_runs l dC dI cI cZ a H.size S x3 k_2) (cwV 1 hts gX8_ask_X8_runs rfl rfl rfl (by decide +kernel) ⟨Nat.le_of_ble_eq_true rfl, Nat.le_of_ble_eq_true rfl⟩) ⟨wBl, va_recv hK hP (ci := 7) (q0 := 0) rfl rfl, fun U hU hW => ⟨rfl, by rw [hU], by rw [hU]; exact hP, va_K.moved hW.alike hK, hD.weaken (fun _ _ _ _ => trivial)⟩⟩ rfl rfl hl.1 rfl (lv_room (Nat.le_of_ble_eq_true rfl)) dX8_ask_129 ⟨Nat.zero_le _, Nat.zero_le _⟩) hS (fun q _ h => hFc q h) hFc (fun r u t H1 locs ht hvm hw hB hz1 hk1 hS => ?_)
    obtain ⟨hP, hD⟩ := wJn ht hFc hB.1 hB.2.2
    have e1 : r = (rs_X8_runs S x3).1 := congrArg Prod.fst hw
    have e2 : u = (rs_X8_runs S x3).2 := congrArg Prod.snd hw
    rw [e1]
    rw [e2] at hP hD
    generalize H1 = H at hP hS ⊢
    exact w_X8_ask_132 C0 hK hA Z k kk hk (rs_X8_runs S x3).2 x1 x3 x2 ((rs_X8_runs S x3).1) hok hZ _ _ hP hD hS _ (lv_sub hl [1, 2, 4] rfl)
def rs_X8_ask_118 (k : St → Int32 → Int32 → Int32 → Int32 × St) (S : St) (x1 : Int32) (x2 : Int32) (x3 : Int32) : Int32 × St := (rs_X8_ask_119 k S x1 x2 x3 0)
def ok_X8_ask_118 (kk : St → Int32 → Int32 → Int32 → Prop) (S : St) (x1 : Int32) (x2 : Int32) (x3 : Int32) : Prop := ok_X8_ask_119 kk S x1 x2 x3 0
set_option maxHeartbeats 4000000 in
set_option maxRecDepth 100000 in
theorem w_X8_ask_118 {p : Program} {l : Launch} {e : Env} {s : State} {m : MethodId} {args : Array Value} {below : List Frame} {meth : Method} {c : Code} {dC : Nat → ClassId} {dI : Nat → Nat → Nat} {cI cZ : ClassId} {a : Nat → Nat} {A : Nat → Prop} (C0 : Cx p s m args meth c RX8 cX8_ask (some .int) 5 wsX8_ask) (hK : va_K (dC, dI) vwCl (tI cI cZ) s) (hA : ∀ q, s.heap.size ≤ q → A q) (Z : Int32 × St) (k : St → Int32 → Int32 → Int32 → Int32 × St) (kk : St → Int32 → Int32 → Int32 → Prop) (hk : ∀ (S : St) (x1 : Int32) (x2 : Int32) (x3 : Int32) (hok : kk S x1 x2 x3) (hZ : k S x1 x2 x3 = Z) (H : Heap) (locs : List Loc) (hP : va_P (dC, dI) vwCl (mW cI cZ a S) H) (hD : va_D A (mW cI cZ a S)) (hS : va_S A s.heap H locs) (ls : Array Slot) (hl : lv_has ls 5 [(0, .ref (a 0)), (1, .int x1), (2, .int x2), (3, .int x3)]), W p l e rm_X8_ask s m args below meth c H locs 0 0 (MQ below (va_Qi (fun (r : Int32) (u : St) => (r, u) = Z) (mWB dC dI cI cZ a A) A) args s 0 0 A) (F0 m 82 ls [])) (S : St) (x1 : Int32) (x2 : Int32) (x3 : Int32) (hok : ok_X8_ask_118 kk S x1 x2 x3) (hZ : rs_X8_ask_118 k S x1 x2 x3 = Z) (H : Heap) (locs : List Loc) (hP : va_P (dC, dI) vwCl (mW cI cZ a S) H) (hD : va_D A (mW cI cZ a S)) (hS : va_S A s.heap H locs) (ls : Array Slot) (hl : lv_has ls 5 [(0, .ref (a 0)), (1, .int x1), (2, .int x2), (3, .int x3)]) : W p l e rm_X8_ask s m args below meth c H locs 0 0 (MQ below (va_Qi (fun (r : Int32) (u : St) => (r, u) = Z) (mWB dC dI cI cZ a A) A) args s 0 0 A) (F0 m 118 ls []) := by
  obtain ⟨hx, hb, hr, hml, hown, hts, hlocks⟩ := id C0
  rw [ok_X8_ask_118] at hok
  rw [rs_X8_ask_118] at hZ
  refine lv_iconst (v := 0) hx hb dX8_ask_118 (by decide) ?_
  exact w_X8_ask_119 C0 hK hA Z k kk hk S x1 x2 x3 0 hok hZ _ _ hP hD hS _ (lv_sub hl [0, 1, 2, 3] rfl)
def rs_X8_ask_308 (S : St) (x2 : Int32) : Int32 × St := (x2, (sI S 686 ((S.1 686) + 1)))
def ok_X8_ask_308 (S : St) (x2 : Int32) : Prop := True
set_option maxHeartbeats 4000000 in
set_option maxRecDepth 100000 in
theorem w_X8_ask_308 {p : Program} {l : Launch} {e : Env} {s : State} {m : MethodId} {args : Array Value} {below : List Frame} {meth : Method} {c : Code} {dC : Nat → ClassId} {dI : Nat → Nat → Nat} {cI cZ : ClassId} {a : Nat → Nat} {A : Nat → Prop} (C0 : Cx p s m args meth c RX8 cX8_ask (some .int) 5 wsX8_ask) (hK : va_K (dC, dI) vwCl (tI cI cZ) s) (hA : ∀ q, s.heap.size ≤ q → A q) (Z : Int32 × St) (S : St) (x2 : Int32) (hok : ok_X8_ask_308 S x2) (hZ : rs_X8_ask_308 S x2 = Z) (H : Heap) (locs : List Loc) (hP : va_P (dC, dI) vwCl (mW cI cZ a S) H) (hD : va_D A (mW cI cZ a S)) (hS : va_S A s.heap H locs) (ls : Array Slot) (hl : lv_has ls 5 [(0, .ref (a 0)), (2, .int x2)]) : W p l e rm_X8_ask s m args below meth c H locs 0 0 (MQ below (va_Qi (fun (r : Int32) (u : St) => (r, u) = Z) (mWB dC dI cI cZ a A) A) args s 0 0 A) (F0 m 308 ls []) := by
  obtain ⟨hx, hb, hr, hml, hown, hts, hlocks⟩ := id C0
  rw [ok_X8_ask_308] at hok
  rw [rs_X8_ask_308] at hZ
  refine lv_aload_n hx hb dX8_ask_308 rfl (lv_at hl 0 rfl) ?_
  refine lv_dup hx hb dX8_ask_309 rfl ?_
  refine va_get (D := (dC, dI)) (ci := 7) (v := .int (S.1 686)) (C := RX8) (T := TX8) (N := 35) hx hb hts iX8_ask_X8 hown hK hP 0 rfl rfl 19 (by decide) (hts (.fieldLink RX8 142 "RiskHouseModel" "cases" "I") (by decide +kernel)) (fun _ h9 => h9) rfl dX8_ask_310 ?_
  refine lv_iconst (v := 1) hx hb dX8_ask_313 (by decide) ?_
  refine lv_iadd hx hb dX8_ask_314 ?_
  refine va_put (D := (dC, dI)) (ci := 7) (v := .int ((S.1 686) + 1)) (ty := .int) (C := RX8) (T := TX8) (N := 35) hx hb hts iX8_ask_X8 tyX8 tyX8_ok nmX8 hown hK hP hD hS 0 rfl rfl 19 (by decide) (hts (.fieldLink RX8 142 "RiskHouseModel" "cases" "I") (by decide +kernel)) (fun _ h9 => h9) rfl (by decide +kernel) rfl rfl (Nat.le_of_ble_eq_true rfl) dX8_ask_315 (fun H locs hP hD hS => ?_)
  have hP : va_P (dC, dI) vwCl (mW cI cZ a (sI S 686 ((S.1 686) + 1))) H := hP
  have hD : va_D A (mW cI cZ a (sI S 686 ((S.1 686) + 1))) := hD
  refine lv_iload_n hx hb dX8_ask_318 rfl (lv_at hl 1 rfl) ?_
  exact W.iret (v := x2) hx hb hr (fun t ht hW => ⟨⟨x2, (sI S 686 ((S.1 686) + 1)), rfl, hZ, by rw [ht]; exact hP, va_K.moved hW.alike hK, hD⟩, hS.F ht⟩) hS.2.2 dX8_ask_319 hlocks
def rs_X8_ask_297 (S : St) (x2 : Int32) (x4 : Int32) : Int32 × St := (rs_X8_ask_308 (sA S 21 (S.1 686).toNatClampNeg (vp_nar .boolean x4)) x2)
def ok_X8_ask_297 (S : St) (x2 : Int32) (x4 : Int32) : Prop := ((vp_in (S.1 686) 40) ∧ ok_X8_ask_308 (sA S 21 (S.1 686).toNatClampNeg (vp_nar .boolean x4)) x2)
set_option maxHeartbeats 4000000 in
set_option maxRecDepth 100000 in
theorem w_X8_ask_297 {p : Program} {l : Launch} {e : Env} {s : State} {m : MethodId} {args : Array Value} {below : List Frame} {meth : Method} {c : Code} {dC : Nat → ClassId} {dI : Nat → Nat → Nat} {cI cZ : ClassId} {a : Nat → Nat} {A : Nat → Prop} (C0 : Cx p s m args meth c RX8 cX8_ask (some .int) 5 wsX8_ask) (hK : va_K (dC, dI) vwCl (tI cI cZ) s) (hA : ∀ q, s.heap.size ≤ q → A q) (Z : Int32 × St) (S : St) (x2 : Int32) (x4 : Int32) (hok : ok_X8_ask_297 S x2 x4) (hZ : rs_X8_ask_297 S x2 x4 = Z) (H : Heap) (locs : List Loc) (hP : va_P (dC, dI) vwCl (mW cI cZ a S) H) (hD : va_D A (mW cI cZ a S)) (hS : va_S A s.heap H locs) (ls : Array Slot) (hl : lv_has ls 5 [(0, .ref (a 0)), (2, .int x2), (4, .int x4)]) : W p l e rm_X8_ask s m args below meth c H locs 0 0 (MQ below (va_Qi (fun (r : Int32) (u : St) => (r, u) = Z) (mWB dC dI cI cZ a A) A) args s 0 0 A) (F0 m 297 ls []) := by
  obtain ⟨hx, hb, hr, hml, hown, hts, hlocks⟩ := id C0
  rw [ok_X8_ask_297] at hok
  rw [rs_X8_ask_297] at hZ
  refine lv_aload_n hx hb dX8_ask_297 rfl (lv_at hl 0 rfl) ?_
  refine va_get (D := (dC, dI)) (ci := 7) (v := .ref (a 16)) (C := RX8) (T := TX8) (N := 35) hx hb hts iX8_ask_X8 hown hK hP 0 rfl rfl 23 (by decide) (hts (.fieldLink RX8 60 "RiskHouseModel" "byChance" "[Z") (by decide +kernel)) (fun _ h9 => h9) rfl dX8_ask_298 ?_
  refine lv_aload_n hx hb dX8_ask_301 rfl (lv_at hl 0 rfl) ?_
  refine va_get (D := (dC, dI)) (ci := 7) (v := .int (S.1 686)) (C := RX8) (T := TX8) (N := 35) hx hb hts iX8_ask_X8 hown hK hP 0 rfl rfl 19 (by decide) (hts (.fieldLink RX8 142 "RiskHouseModel" "cases" "I") (by decide +kernel)) (fun _ h9 => h9) rfl dX8_ask_302 ?_
  refine lv_iload hx hb dX8_ask_305 (lv_at hl 2 rfl) ?_
  obtain ⟨h_1, hok⟩ := hok
  refine va_zast hx hb hK hP hD hS 16 1 rfl rfl h_1 dX8_ask_307 (fun H locs hP hD hS => ?_)
  have hP : va_P (dC, dI) vwCl (mW cI cZ a (sA S 21 (S.1 686).toNatClampNeg (vp_nar .boolean x4))) H := hP
  have hD : va_D A (mW cI cZ a (sA S 21 (S.1 686).toNatClampNeg (vp_nar .boolean x4))) := hD
  exact w_X8_ask_308 C0 hK hA Z (sA S 21 (S.1 686).toNatClampNeg (vp_nar .boolean x4)) x2 hok hZ _ _ hP hD hS _ (lv_sub hl [0, 1] rfl)
def rs_X8_ask_296 (S : St) (x2 : Int32) (x4 : Int32) (z1 : Int32) (z2 : Int32) : Int32 × St := (rs_X8_ask_297 (sA S 20 z1.toNatClampNeg z2) x2 x4)
def ok_X8_ask_296 (S : St) (x2 : Int32) (x4 : Int32) (z1 : Int32) (z2 : Int32) : Prop := ((vp_in z1 40) ∧ ok_X8_ask_297 (sA S 20 z1.toNatClampNeg z2) x2 x4)
set_option maxHeartbeats 4000000 in
set_option maxRecDepth 100000 in
theorem w_X8_ask_296 {p : Program} {l : Launch} {e : Env} {s : State} {m : MethodId} {args : Array Value} {below : List Frame} {meth : Method} {c : Code} {dC : Nat → ClassId} {dI : Nat → Nat → Nat} {cI cZ : ClassId} {a : Nat → Nat} {A : Nat → Prop} (C0 : Cx p s m args meth c RX8 cX8_ask (some .int) 5 wsX8_ask) (hK : va_K (dC, dI) vwCl (tI cI cZ) s) (hA : ∀ q, s.heap.size ≤ q → A q) (Z : Int32 × St) (S : St) (x2 : Int32) (x4 : Int32) (z1 : Int32) (z2 : Int32) (hok : ok_X8_ask_296 S x2 x4 z1 z2) (hZ : rs_X8_ask_296 S x2 x4 z1 z2 = Z) (H : Heap) (locs : List Loc) (hP : va_P (dC, dI) vwCl (mW cI cZ a S) H) (hD : va_D A (mW cI cZ a S)) (hS : va_S A s.heap H locs) (ls : Array Slot) (hl : lv_has ls 5 [(0, .ref (a 0)), (2, .int x2), (4, .int x4)]) : W p l e rm_X8_ask s m args below meth c H locs 0 0 (MQ below (va_Qi (fun (r : Int32) (u : St) => (r, u) = Z) (mWB dC dI cI cZ a A) A) args s 0 0 A) (F0 m 296 ls [.int z2, .int z1, .ref (a 15)]) := by
  obtain ⟨hx, hb, hr, hml, hown, hts, hlocks⟩ := id C0
  rw [ok_X8_ask_296] at hok
  rw [rs_X8_ask_296] at hZ
  obtain ⟨h_1, hok⟩ := hok
  refine va_iast hx hb hK hP hD hS 15 0 rfl rfl h_1 dX8_ask_296 (fun H locs hP hD hS => ?_)
  have hP : va_P (dC, dI) vwCl (mW cI cZ a (sA S 20 z1.toNatClampNeg z2)) H := hP
  have hD : va_D A (mW cI cZ a (sA S 20 z1.toNatClampNeg z2)) := hD
  exact w_X8_ask_297 C0 hK hA Z (sA S 20 z1.toNatClampNeg z2) x2 x4 hok hZ _ _ hP hD hS _ (lv_sub hl [0, 1, 2] rfl)
def rs_X8_ask_268 (S : St) (x2 : Int32) (x3 : Int32) (x4 : Int32) : Int32 × St := (if x4 = 0 then (rs_X8_ask_296 (sA S 19 (S.1 686).toNatClampNeg x2) x2 x4 (S.1 686) x3) else (rs_X8_ask_296 (sA S 19 (S.1 686).toNatClampNeg x2) x2 x4 (S.1 686) 1))
def ok_X8_ask_268 (S : St) (x2 : Int32) (x3 : Int32) (x4 : Int32) : Prop := ((vp_in (S.1 686) 40) ∧ (if x4 = 0 then ok_X8_ask_296 (sA S 19 (S.1 686).toNatClampNeg x2) x2 x4 (S.1 686) x3 else ok_X8_ask_296 (sA S 19 (S.1 686).toNatClampNeg x2) x2 x4 (S.1 686) 1))
set_option maxHeartbeats 4000000 in
set_option maxRecDepth 100000 in
theorem w_X8_ask_268 {p : Program} {l : Launch} {e : Env} {s : State} {m : MethodId} {args : Array Value} {below : List Frame} {meth : Method} {c : Code} {dC : Nat → ClassId} {dI : Nat → Nat → Nat} {cI cZ : ClassId} {a : Nat → Nat} {A : Nat → Prop} (C0 : Cx p s m args meth c RX8 cX8_ask (some .int) 5 wsX8_ask) (hK : va_K (dC, dI) vwCl (tI cI cZ) s) (hA : ∀ q, s.heap.size ≤ q → A q) (Z : Int32 × St) (S : St) (x2 : Int32) (x3 : Int32) (x4 : Int32) (hok : ok_X8_ask_268 S x2 x3 x4) (hZ : rs_X8_ask_268 S x2 x3 x4 = Z) (H : Heap) (locs : List Loc) (hP : va_P (dC, dI) vwCl (mW cI cZ a S) H) (hD : va_D A (mW cI cZ a S)) (hS : va_S A s.heap H locs) (ls : Array Slot) (hl : lv_has ls 5 [(0, .ref (a 0)), (2, .int x2), (3, .int x3), (4, .int x4)]) : W p l e rm_X8_ask s m args below meth c H locs 0 0 (MQ below (va_Qi (fun (r : Int32) (u : St) => (r, u) = Z) (mWB dC dI cI cZ a A) A) args s 0 0 A) (F0 m 268 ls []) := by
  obtain ⟨hx, hb, hr, hml, hown, hts, hlocks⟩ := id C0
  rw [ok_X8_ask_268] at hok
  rw [rs_X8_ask_268] at hZ
  refine lv_aload_n hx hb dX8_ask_268 rfl (lv_at hl 0 rfl) ?_
  refine va_get (D := (dC, dI)) (ci := 7) (v := .ref (a 14)) (C := RX8) (T := TX8) (N := 35) hx hb hts iX8_ask_X8 hown hK hP 0 rfl rfl 21 (by decide) (hts (.fieldLink RX8 54 "RiskHouseModel" "points" "[I") (by decide +kernel)) (fun _ h9 => h9) rfl dX8_ask_269 ?_
  refine lv_aload_n hx hb dX8_ask_272 rfl (lv_at hl 0 rfl) ?_
  refine va_get (D := (dC, dI)) (ci := 7) (v := .int (S.1 686)) (C := RX8) (T := TX8) (N := 35) hx hb hts iX8_ask_X8 hown hK hP 0 rfl rfl 19 (by decide) (hts (.fieldLink RX8 142 "RiskHouseModel" "cases" "I") (by decide +kernel)) (fun _ h9 => h9) rfl dX8_ask_273 ?_
  refine lv_iload_n hx hb dX8_ask_276 rfl (lv_at hl 1 rfl) ?_
  obtain ⟨h_1, hok⟩ := hok
  refine va_iast hx hb hK hP hD hS 14 0 rfl rfl h_1 dX8_ask_277 (fun H locs hP hD hS => ?_)
  have hP : va_P (dC, dI) vwCl (mW cI cZ a (sA S 19 (S.1 686).toNatClampNeg x2)) H := hP
  have hD : va_D A (mW cI cZ a (sA S 19 (S.1 686).toNatClampNeg x2)) := hD
  refine lv_aload_n hx hb dX8_ask_278 rfl (lv_at hl 0 rfl) ?_
  refine va_get (D := (dC, dI)) (ci := 7) (v := .ref (a 15)) (C := RX8) (T := TX8) (N := 35) hx hb hts iX8_ask_X8 hown hK hP 0 rfl rfl 22 (by decide) (hts (.fieldLink RX8 57 "RiskHouseModel" "path" "[I") (by decide +kernel)) (fun _ h9 => h9) rfl dX8_ask_279 ?_
  refine lv_aload_n hx hb dX8_ask_282 rfl (lv_at hl 0 rfl) ?_
  refine va_get (D := (dC, dI)) (ci := 7) (v := .int (S.1 686)) (C := RX8) (T := TX8) (N := 35) hx hb hts iX8_ask_X8 hown hK hP 0 rfl rfl 19 (by decide) (hts (.fieldLink RX8 142 "RiskHouseModel" "cases" "I") (by decide +kernel)) (fun _ h9 => h9) rfl dX8_ask_283 ?_
  refine lv_iload hx hb dX8_ask_286 (lv_at hl 3 rfl) ?_
  refine lv_if_eq (tgt := 295) hx hb dX8_ask_288 (by decide) (fun c_2 => ?_) (fun c_2 => ?_)
  · have hok := okT hok c_2
    have hZ := rsT hZ c_2
    refine lv_iload_n hx hb dX8_ask_295 rfl (lv_at hl 2 rfl) ?_
    exact w_X8_ask_296 C0 hK hA Z (sA S 19 (S.1 686).toNatClampNeg x2) x2 x4 (S.1 686) x3 hok hZ _ _ hP hD hS _ (lv_sub hl [0, 1, 3] rfl)
  · have hok := okF hok c_2
    have hZ := rsF hZ c_2
    refine lv_iconst (v := 1) hx hb dX8_ask_291 (by decide) ?_
    refine lv_goto (tgt := 296) hx hb dX8_ask_292 (by decide) ?_
    exact w_X8_ask_296 C0 hK hA Z (sA S 19 (S.1 686).toNatClampNeg x2) x2 x4 (S.1 686) 1 hok hZ _ _ hP hD hS _ (lv_sub hl [0, 1, 3] rfl)
def rs_X8_ask_258 (S : St) (x1 : Int32) (x2 : Int32) (x3 : Int32) (x4 : Int32) : Int32 × St := (rs_X8_ask_268 (sA S 18 (S.1 686).toNatClampNeg x1) x2 x3 x4)
def ok_X8_ask_258 (S : St) (x1 : Int32) (x2 : Int32) (x3 : Int32) (x4 : Int32) : Prop := ((vp_in (S.1 686) 40) ∧ ok_X8_ask_268 (sA S 18 (S.1 686).toNatClampNeg x1) x2 x3 x4)
set_option maxHeartbeats 4000000 in
set_option maxRecDepth 100000 in
theorem w_X8_ask_258 {p : Program} {l : Launch} {e : Env} {s : State} {m : MethodId} {args : Array Value} {below : List Frame} {meth : Method} {c : Code} {dC : Nat → ClassId} {dI : Nat → Nat → Nat} {cI cZ : ClassId} {a : Nat → Nat} {A : Nat → Prop} (C0 : Cx p s m args meth c RX8 cX8_ask (some .int) 5 wsX8_ask) (hK : va_K (dC, dI) vwCl (tI cI cZ) s) (hA : ∀ q, s.heap.size ≤ q → A q) (Z : Int32 × St) (S : St) (x1 : Int32) (x2 : Int32) (x3 : Int32) (x4 : Int32) (hok : ok_X8_ask_258 S x1 x2 x3 x4) (hZ : rs_X8_ask_258 S x1 x2 x3 x4 = Z) (H : Heap) (locs : List Loc) (hP : va_P (dC, dI) vwCl (mW cI cZ a S) H) (hD : va_D A (mW cI cZ a S)) (hS : va_S A s.heap H locs) (ls : Array Slot) (hl : lv_has ls 5 [(0, .ref (a 0)), (1, .int x1), (2, .int x2), (3, .int x3), (4, .int x4)]) : W p l e rm_X8_ask s m args below meth c H locs 0 0 (MQ below (va_Qi (fun (r : Int32) (u : St) => (r, u) = Z) (mWB dC dI cI cZ a A) A) args s 0 0 A) (F0 m 258 ls []) := by
  obtain ⟨hx, hb, hr, hml, hown, hts, hlocks⟩ := id C0
  rw [ok_X8_ask_258] at hok
  rw [rs_X8_ask_258] at hZ
  refine lv_aload_n hx hb dX8_ask_258 rfl (lv_at hl 0 rfl) ?_
  refine va_get (D := (dC, dI)) (ci := 7) (v := .ref (a 13)) (C := RX8) (T := TX8) (N := 35) hx hb hts iX8_ask_X8 hown hK hP 0 rfl rfl 20 (by decide) (hts (.fieldLink RX8 51 "RiskHouseModel" "office" "[I") (by decide +kernel)) (fun _ h9 => h9) rfl dX8_ask_259 ?_
  refine lv_aload_n hx hb dX8_ask_262 rfl (lv_at hl 0 rfl) ?_
  refine va_get (D := (dC, dI)) (ci := 7) (v := .int (S.1 686)) (C := RX8) (T := TX8) (N := 35) hx hb hts iX8_ask_X8 hown hK hP 0 rfl rfl 19 (by decide) (hts (.fieldLink RX8 142 "RiskHouseModel" "cases" "I") (by decide +kernel)) (fun _ h9 => h9) rfl dX8_ask_263 ?_
  refine lv_iload_n hx hb dX8_ask_266 rfl (lv_at hl 1 rfl) ?_
  obtain ⟨h_1, hok⟩ := hok
  refine va_iast hx hb hK hP hD hS 13 0 rfl rfl h_1 dX8_ask_267 (fun H locs hP hD hS => ?_)
  have hP : va_P (dC, dI) vwCl (mW cI cZ a (sA S 18 (S.1 686).toNatClampNeg x1)) H := hP
  have hD : va_D A (mW cI cZ a (sA S 18 (S.1 686).toNatClampNeg x1)) := hD
  exact w_X8_ask_268 C0 hK hA Z (sA S 18 (S.1 686).toNatClampNeg x1) x2 x3 x4 hok hZ _ _ hP hD hS _ (lv_sub hl [0, 2, 3, 4] rfl)
def rs_X8_ask_246 (S : St) (x1 : Int32) (x2 : Int32) (x3 : Int32) (z0 : Int32) : Int32 × St := (rs_X8_ask_258 (sI S 602 ((S.1 602) + 1)) x1 x2 x3 z0)
def ok_X8_ask_246 (S : St) (x1 : Int32) (x2 : Int32) (x3 : Int32) (z0 : Int32) : Prop := ok_X8_ask_258 (sI S 602 ((S.1 602) + 1)) x1 x2 x3 z0
set_option maxHeartbeats 4000000 in
set_option maxRecDepth 100000 in
theorem w_X8_ask_246 {p : Program} {l : Launch} {e : Env} {s : State} {m : MethodId} {args : Array Value} {below : List Frame} {meth : Method} {c : Code} {dC : Nat → ClassId} {dI : Nat → Nat → Nat} {cI cZ : ClassId} {a : Nat → Nat} {A : Nat → Prop} (C0 : Cx p s m args meth c RX8 cX8_ask (some .int) 5 wsX8_ask) (hK : va_K (dC, dI) vwCl (tI cI cZ) s) (hA : ∀ q, s.heap.size ≤ q → A q) (Z : Int32 × St) (S : St) (x1 : Int32) (x2 : Int32) (x3 : Int32) (z0 : Int32) (hok : ok_X8_ask_246 S x1 x2 x3 z0) (hZ : rs_X8_ask_246 S x1 x2 x3 z0 = Z) (H : Heap) (locs : List Loc) (hP : va_P (dC, dI) vwCl (mW cI cZ a S) H) (hD : va_D A (mW cI cZ a S)) (hS : va_S A s.heap H locs) (ls : Array Slot) (hl : lv_has ls 5 [(0, .ref (a 0)), (1, .int x1), (2, .int x2), (3, .int x3)]) : W p l e rm_X8_ask s m args below meth c H locs 0 0 (MQ below (va_Qi (fun (r : Int32) (u : St) => (r, u) = Z) (mWB dC dI cI cZ a A) A) args s 0 0 A) (F0 m 246 ls [.int z0]) := by
  obtain ⟨hx, hb, hr, hml, hown, hts, hlocks⟩ := id C0
  rw [ok_X8_ask_246] at hok
  rw [rs_X8_ask_246] at hZ
  refine lv_istore (lv' := [(4, .int z0), (0, .ref (a 0)), (1, .int x1), (2, .int x2), (3, .int x3)]) hx hb dX8_ask_246 hl (by decide) rfl (fun ls hl => ?_)
  refine lv_aload_n hx hb dX8_ask_248 rfl (lv_at hl 1 rfl) ?_
  refine lv_dup hx hb dX8_ask_249 rfl ?_
  refine va_get (D := (dC, dI)) (ci := 7) (v := .int (S.1 602)) (C := RX8) (T := TX8) (N := 35) hx hb hts iX8_ask_X8 hown hK hP 0 rfl rfl 14 (by decide) (hts (.fieldLink RX8 164 "RiskHouseModel" "taken" "I") (by decide +kernel)) (fun _ h9 => h9) rfl dX8_ask_250 ?_
  refine lv_iconst (v := 1) hx hb dX8_ask_253 (by decide) ?_
  refine lv_iadd hx hb dX8_ask_254 ?_
  refine va_put (D := (dC, dI)) (ci := 7) (v := .int ((S.1 602) + 1)) (ty := .int) (C := RX8) (T := TX8) (N := 35) hx hb hts iX8_ask_X8 tyX8 tyX8_ok nmX8 hown hK hP hD hS 0 rfl rfl 14 (by decide) (hts (.fieldLink RX8 164 "RiskHouseModel" "taken" "I") (by decide +kernel)) (fun _ h9 => h9) rfl (by decide +kernel) rfl rfl (Nat.le_of_ble_eq_true rfl) dX8_ask_255 (fun H locs hP hD hS => ?_)
  have hP : va_P (dC, dI) vwCl (mW cI cZ a (sI S 602 ((S.1 602) + 1))) H := hP
  have hD : va_D A (mW cI cZ a (sI S 602 ((S.1 602) + 1))) := hD
  exact w_X8_ask_258 C0 hK hA Z (sI S 602 ((S.1 602) + 1)) x1 x2 x3 z0 hok hZ _ _ hP hD hS _ (lv_sub hl [1, 2, 3, 4, 0] rfl)
def rs_X8_ask_197 (S : St) (x1 : Int32) (x2 : Int32) (z0 : Int32) : Int32 × St := (if z0 = 0 then (if (S.1 601) ≤ (S.1 602) then (rs_X8_ask_258 S x1 x2 z0 0) else (if ((S.1 603) * 1000) ≤ (((S.2 16) (S.1 602).toNatClampNeg) * (S.1 604)) then (rs_X8_ask_246 S x1 x2 z0 0) else (rs_X8_ask_246 S x1 x2 z0 1))) else (rs_X8_ask_258 S x1 x2 z0 0))
def ok_X8_ask_197 (S : St) (x1 : Int32) (x2 : Int32) (z0 : Int32) : Prop := (if z0 = 0 then (if (S.1 601) ≤ (S.1 602) then ok_X8_ask_258 S x1 x2 z0 0 else ((vp_in (S.1 602) 60) ∧ (if ((S.1 603) * 1000) ≤ (((S.2 16) (S.1 602).toNatClampNeg) * (S.1 604)) then ok_X8_ask_246 S x1 x2 z0 0 else ok_X8_ask_246 S x1 x2 z0 1))) else ok_X8_ask_258 S x1 x2 z0 0)
set_option maxHeartbeats 4000000 in
set_option maxRecDepth 100000 in
theorem w_X8_ask_197 {p : Program} {l : Launch} {e : Env} {s : State} {m : MethodId} {args : Array Value} {below : List Frame} {meth : Method} {c : Code} {dC : Nat → ClassId} {dI : Nat → Nat → Nat} {cI cZ : ClassId} {a : Nat → Nat} {A : Nat → Prop} (C0 : Cx p s m args meth c RX8 cX8_ask (some .int) 5 wsX8_ask) (hK : va_K (dC, dI) vwCl (tI cI cZ) s) (hA : ∀ q, s.heap.size ≤ q → A q) (Z : Int32 × St) (S : St) (x1 : Int32) (x2 : Int32) (z0 : Int32) (hok : ok_X8_ask_197 S x1 x2 z0) (hZ : rs_X8_ask_197 S x1 x2 z0 = Z) (H : Heap) (locs : List Loc) (hP : va_P (dC, dI) vwCl (mW cI cZ a S) H) (hD : va_D A (mW cI cZ a S)) (hS : va_S A s.heap H locs) (ls : Array Slot) (hl : lv_has ls 5 [(0, .ref (a 0)), (1, .int x1), (2, .int x2)]) : W p l e rm_X8_ask s m args below meth c H locs 0 0 (MQ below (va_Qi (fun (r : Int32) (u : St) => (r, u) = Z) (mWB dC dI cI cZ a A) A) args s 0 0 A) (F0 m 197 ls [.int z0]) := by
  obtain ⟨hx, hb, hr, hml, hown, hts, hlocks⟩ := id C0
  rw [ok_X8_ask_197] at hok
  rw [rs_X8_ask_197] at hZ
  refine lv_istore_n (lv' := [(3, .int z0), (0, .ref (a 0)), (1, .int x1), (2, .int x2)]) hx hb dX8_ask_197 rfl hl (by decide) rfl (fun ls hl => ?_)
  refine lv_iconst (v := 0) hx hb dX8_ask_198 (by decide) ?_
  refine lv_istore (lv' := [(4, .int 0), (3, .int z0), (0, .ref (a 0)), (1, .int x1), (2, .int x2)]) hx hb dX8_ask_199 hl (by decide) rfl (fun ls hl => ?_)
  refine lv_iload_n hx hb dX8_ask_201 rfl (lv_at hl 1 rfl) ?_
  refine lv_if_ne (tgt := 258) hx hb dX8_ask_202 (by decide) (fun c_1 => ?_) (fun c_1 => ?_)
  · have hok := okF hok c_1
    have hZ := rsF hZ c_1
    exact w_X8_ask_258 C0 hK hA Z S x1 x2 z0 0 hok hZ _ _ hP hD hS _ (lv_sub hl [2, 3, 4, 1, 0] rfl)
  · have hok := okT hok c_1
    have hZ := rsT hZ c_1
    refine lv_aload_n hx hb dX8_ask_205 rfl (lv_at hl 2 rfl) ?_
    refine va_get (D := (dC, dI)) (ci := 7) (v := .int (S.1 602)) (C := RX8) (T := TX8) (N := 35) hx hb hts iX8_ask_X8 hown hK hP 0 rfl rfl 14 (by decide) (hts (.fieldLink RX8 164 "RiskHouseModel" "taken" "I") (by decide +kernel)) (fun _ h9 => h9) rfl dX8_ask_206 ?_
    refine lv_aload_n hx hb dX8_ask_209 rfl (lv_at hl 2 rfl) ?_
    refine va_get (D := (dC, dI)) (ci := 7) (v := .int (S.1 601)) (C := RX8) (T := TX8) (N := 35) hx hb hts iX8_ask_X8 hown hK hP 0 rfl rfl 13 (by decide) (hts (.fieldLink RX8 113 "RiskHouseModel" "numbers" "I") (by decide +kernel)) (fun _ h9 => h9) rfl dX8_ask_210 ?_
    refine lv_icmp_ge (tgt := 258) hx hb dX8_ask_213 (by decide) (fun c_2 => ?_) (fun c_2 => ?_)
    · have hok := okT hok c_2
      have hZ := rsT hZ c_2
      exact w_X8_ask_258 C0 hK hA Z S x1 x2 z0 0 hok hZ _ _ hP hD hS _ (lv_sub hl [2, 3, 4, 1, 0] rfl)
    · have hok := okF hok c_2
      have hZ := rsF hZ c_2
      refine lv_aload_n hx hb dX8_ask_216 rfl (lv_at hl 2 rfl) ?_
      refine va_get (D := (dC, dI)) (ci := 7) (v := .ref (a 11)) (C := RX8) (T := TX8) (N := 35) hx hb hts iX8_ask_X8 hown hK hP 0 rfl rfl 15 (by decide) (hts (.fieldLink RX8 41 "RiskHouseModel" "tape" "[I") (by decide +kernel)) (fun _ h9 => h9) rfl dX8_ask_217 ?_
      refine lv_aload_n hx hb dX8_ask_220 rfl (lv_at hl 2 rfl) ?_
      refine va_get (D := (dC, dI)) (ci := 7) (v := .int (S.1 602)) (C := RX8) (T := TX8) (N := 35) hx hb hts iX8_ask_X8 hown hK hP 0 rfl rfl 14 (by decide) (hts (.fieldLink RX8 164 "RiskHouseModel" "taken" "I") (by decide +kernel)) (fun _ h9 => h9) rfl dX8_ask_221 ?_
      obtain ⟨h_3, hok⟩ := hok
      refine va_iald (f := (S.2 16)) hx hb hK hP 11 0 rfl rfl h_3 dX8_ask_224 ?_
      refine lv_aload_n hx hb dX8_ask_225 rfl (lv_at hl 2 rfl) ?_
      refine va_get (D := (dC, dI)) (ci := 7) (v := .int (S.1 604)) (C := RX8) (T := TX8) (N := 35) hx hb hts iX8_ask_X8 hown hK hP 0 rfl rfl 17 (by decide) (hts (.fieldLink RX8 44 "RiskHouseModel" "down" "I") (by decide +kernel)) (fun _ h9 => h9) rfl dX8_ask_226 ?_
      refine lv_imul hx hb dX8_ask_229 ?_
      refine lv_aload_n hx hb dX8_ask_230 rfl (lv_at hl 2 rfl) ?_
      refine va_get (D := (dC, dI)) (ci := 7) (v := .int (S.1 603)) (C := RX8) (T := TX8) (N := 35) hx hb hts iX8_ask_X8 hown hK hP 0 rfl rfl 16 (by decide) (hts (.fieldLink RX8 116 "RiskHouseModel" "up" "I") (by decide +kernel)) (fun _ h9 => h9) rfl dX8_ask_231 ?_
      refine lv_sipush (v := 1000) hx hb dX8_ask_234 (by decide) ?_
      refine lv_imul hx hb dX8_ask_237 ?_
      refine lv_icmp_ge (tgt := 245) hx hb dX8_ask_238 (by decide) (fun c_4 => ?_) (fun c_4 => ?_)
      · have hok := okT hok c_4
        have hZ := rsT hZ c_4
        refine lv_iconst (v := 0) hx hb dX8_ask_245 (by decide) ?_
        exact w_X8_ask_246 C0 hK hA Z S x1 x2 z0 0 hok hZ _ _ hP hD hS _ (lv_sub hl [2, 3, 4, 1] rfl)
      · have hok := okF hok c_4
        have hZ := rsF hZ c_4
        refine lv_iconst (v := 1) hx hb dX8_ask_241 (by decide) ?_
        refine lv_goto (tgt := 246) hx hb dX8_ask_242 (by decide) ?_
        exact w_X8_ask_246 C0 hK hA Z S x1 x2 z0 1 hok hZ _ _ hP hD hS _ (lv_sub hl [2, 3, 4, 1] rfl)
def rs_X8_ask_82 : Nat → St → Int32 → Int32 → Int32 → Int32 × St
  | 0, S, x1, x2, x3 => (0, S)
  | n + 1, S, x1, x2, x3 => (if (S.1 127) ≤ x3 then (if 20 ≤ (rs_X8_held x2 1000) then (if 50 ≤ (rs_X8_held x2 1000) then (if 80 ≤ (rs_X8_held x2 1000) then (rs_X8_ask_197 S x1 (rs_X8_held x2 1000) 3) else (rs_X8_ask_197 S x1 (rs_X8_held x2 1000) 2)) else (rs_X8_ask_197 S x1 (rs_X8_held x2 1000) 1)) else (rs_X8_ask_197 S x1 (rs_X8_held x2 1000) 0)) else (if ((S.2 5) x3.toNatClampNeg) = 0 then (if ((S.2 13) ((S.2 4) x3.toNatClampNeg).toNatClampNeg) = 1 then (rs_X8_ask_119 (rs_X8_ask_82 n) S x1 x2 x3 1) else (rs_X8_ask_118 (rs_X8_ask_82 n) S x1 x2 x3)) else (rs_X8_ask_118 (rs_X8_ask_82 n) S x1 x2 x3)))
def ok_X8_ask_82 : Nat → St → Int32 → Int32 → Int32 → Prop
  | 0, _, _, _, _ => False
  | n + 1, S, x1, x2, x3 => (if (S.1 127) ≤ x3 then ((ok_X8_held x2 1000) ∧ (if 20 ≤ (rs_X8_held x2 1000) then (if 50 ≤ (rs_X8_held x2 1000) then (if 80 ≤ (rs_X8_held x2 1000) then ok_X8_ask_197 S x1 (rs_X8_held x2 1000) 3 else ok_X8_ask_197 S x1 (rs_X8_held x2 1000) 2) else ok_X8_ask_197 S x1 (rs_X8_held x2 1000) 1) else ok_X8_ask_197 S x1 (rs_X8_held x2 1000) 0)) else ((vp_in x3 12) ∧ (if ((S.2 5) x3.toNatClampNeg) = 0 then ((vp_in x3 12) ∧ ((vp_in ((S.2 4) x3.toNatClampNeg) 4) ∧ (if ((S.2 13) ((S.2 4) x3.toNatClampNeg).toNatClampNeg) = 1 then ok_X8_ask_119 (ok_X8_ask_82 n) S x1 x2 x3 1 else ok_X8_ask_118 (ok_X8_ask_82 n) S x1 x2 x3))) else ok_X8_ask_118 (ok_X8_ask_82 n) S x1 x2 x3)))
set_option maxHeartbeats 4000000 in
set_option maxRecDepth 100000 in
theorem w_X8_ask_82 {p : Program} {l : Launch} {e : Env} {s : State} {m : MethodId} {args : Array Value} {below : List Frame} {meth : Method} {c : Code} {dC : Nat → ClassId} {dI : Nat → Nat → Nat} {cI cZ : ClassId} {a : Nat → Nat} {A : Nat → Prop} (C0 : Cx p s m args meth c RX8 cX8_ask (some .int) 5 wsX8_ask) (hK : va_K (dC, dI) vwCl (tI cI cZ) s) (hA : ∀ q, s.heap.size ≤ q → A q) (Z : Int32 × St) : ∀ (n : Nat) (S : St) (x1 : Int32) (x2 : Int32) (x3 : Int32) (hok : ok_X8_ask_82 n S x1 x2 x3) (hZ : rs_X8_ask_82 n S x1 x2 x3 = Z) (H : Heap) (locs : List Loc) (hP : va_P (dC, dI) vwCl (mW cI cZ a S) H) (hD : va_D A (mW cI cZ a S)) (hS : va_S A s.heap H locs) (ls : Array Slot) (hl : lv_has ls 5 [(0, .ref (a 0)), (1, .int x1), (2, .int x2), (3, .int x3)]), W p l e rm_X8_ask s m args below meth c H locs 0 0 (MQ below (va_Qi (fun (r : Int32) (u : St) => (r, u) = Z) (mWB dC dI cI cZ a A) A) args s 0 0 A) (F0 m 82 ls []) := by
  obtain ⟨hx, hb, hr, hml, hown, hts, hlocks⟩ := id C0
  intro n
  induction n with
  | zero => intro S x1 x2 x3 hok; exact absurd hok (fun h => h)
  | succ n ih =>
    intro S x1 x2 x3 hok hZ H locs hP hD hS ls hl
    rw [ok_X8_ask_82] at hok
    rw [rs_X8_ask_82] at hZ
    refine lv_iload_n hx hb dX8_ask_82 rfl (lv_at hl 3 rfl) ?_
    refine lv_aload_n hx hb dX8_ask_83 rfl (lv_at hl 0 rfl) ?_
    refine va_get (D := (dC, dI)) (ci := 7) (v := .int (S.1 127)) (C := RX8) (T := TX8) (N := 35) hx hb hts iX8_ask_X8 hown hK hP 0 rfl rfl 5 (by decide) (hts (.fieldLink RX8 91 "RiskHouseModel" "rules" "I") (by decide +kernel)) (fun _ h9 => h9) rfl dX8_ask_84 ?_
    refine lv_icmp_ge (tgt := 158) hx hb dX8_ask_87 (by decide) (fun c_1 => ?_) (fun c_1 => ?_)
    · have hok := okT hok c_1
      have hZ := rsT hZ c_1
      refine lv_iload_n hx hb dX8_ask_158 rfl (lv_at hl 2 rfl) ?_
      refine lv_sipush (v := 1000) hx hb dX8_ask_159 (by decide) ?_
      obtain ⟨k_2, hok⟩ := hok
      have hFc := wFr hS hA
      refine va_calli (va_runS (As := [.int x2, .int 1000]) (rest := []) ⟨hx, hb, hml, hown, hts⟩ (c_X8_held l H.size x2 1000 k_2) (va_cwS 2 hts gX8_ask_X8_held rfl rfl rfl (by decide +kernel) ⟨Nat.le_of_ble_eq_true rfl, Nat.le_of_ble_eq_true rfl⟩) ⟨fun a9 U g9 mk9 q9 => q9, fun U hU hW => ⟨rfl, congrArg Array.size hU⟩⟩ rfl rfl hl.1 rfl (lv_room (Nat.le_of_ble_eq_true rfl)) dX8_ask_162 ⟨Nat.zero_le _, Nat.zero_le _⟩) hS (fun q _ h => hFc q h) hFc (fun r u t H1 locs ht hvm hw hB hz1 hk1 hS => ?_)
      have hP := wKp hP hk1
      subst hw
      generalize H1 = H at hP hS ⊢
      refine lv_istore_n (lv' := [(2, .int (rs_X8_held x2 1000)), (0, .ref (a 0)), (1, .int x1), (3, .int x3)]) hx hb dX8_ask_165 rfl hl (by decide) rfl (fun ls hl => ?_)
      refine lv_iload_n hx hb dX8_ask_166 rfl (lv_at hl 0 rfl) ?_
      refine lv_bipush (v := 20) hx hb dX8_ask_167 (by decide) ?_
      refine lv_icmp_ge (tgt := 176) hx hb dX8_ask_169 (by decide) (fun c_3 => ?_) (fun c_3 => ?_)
      · have hok := okT hok c_3
        have hZ := rsT hZ c_3
        refine lv_iload_n hx hb dX8_ask_176 rfl (lv_at hl 0 rfl) ?_
        refine lv_bipush (v := 50) hx hb dX8_ask_177 (by decide) ?_
        refine lv_icmp_ge (tgt := 186) hx hb dX8_ask_179 (by decide) (fun c_4 => ?_) (fun c_4 => ?_)
        · have hok := okT hok c_4
          have hZ := rsT hZ c_4
          refine lv_iload_n hx hb dX8_ask_186 rfl (lv_at hl 0 rfl) ?_
          refine lv_bipush (v := 80) hx hb dX8_ask_187 (by decide) ?_
          refine lv_icmp_ge (tgt := 196) hx hb dX8_ask_189 (by decide) (fun c_5 => ?_) (fun c_5 => ?_)
          · have hok := okT hok c_5
            have hZ := rsT hZ c_5
            refine lv_iconst (v := 3) hx hb dX8_ask_196 (by decide) ?_
            exact w_X8_ask_197 C0 hK hA Z S x1 (rs_X8_held x2 1000) 3 hok hZ _ _ hP hD hS _ (lv_sub hl [1, 2, 0] rfl)
          · have hok := okF hok c_5
            have hZ := rsF hZ c_5
            refine lv_iconst (v := 2) hx hb dX8_ask_192 (by decide) ?_
            refine lv_goto (tgt := 197) hx hb dX8_ask_193 (by decide) ?_
            exact w_X8_ask_197 C0 hK hA Z S x1 (rs_X8_held x2 1000) 2 hok hZ _ _ hP hD hS _ (lv_sub hl [1, 2, 0] rfl)
        · have hok := okF hok c_4
          have hZ := rsF hZ c_4
          refine lv_iconst (v := 1) hx hb dX8_ask_182 (by decide) ?_
          refine lv_goto (tgt := 197) hx hb dX8_ask_183 (by decide) ?_
          exact w_X8_ask_197 C0 hK hA Z S x1 (rs_X8_held x2 1000) 1 hok hZ _ _ hP hD hS _ (lv_sub hl [1, 2, 0] rfl)
      · have hok := okF hok c_3
        have hZ := rsF hZ c_3
        refine lv_iconst (v := 0) hx hb dX8_ask_172 (by decide) ?_
        refine lv_goto (tgt := 197) hx hb dX8_ask_173 (by decide) ?_
        exact w_X8_ask_197 C0 hK hA Z S x1 (rs_X8_held x2 1000) 0 hok hZ _ _ hP hD hS _ (lv_sub hl [1, 2, 0] rfl)
    · have hok := okF hok c_1
      have hZ := rsF hZ c_1
      refine lv_aload_n hx hb dX8_ask_90 rfl (lv_at hl 0 rfl) ?_
      refine va_get (D := (dC, dI)) (ci := 7) (v := .ref (a 5)) (C := RX8) (T := TX8) (N := 35) hx hb hts iX8_ask_X8 hown hK hP 0 rfl rfl 7 (by decide) (hts (.fieldLink RX8 22 "RiskHouseModel" "isStart" "[Z") (by decide +kernel)) (fun _ h9 => h9) rfl dX8_ask_91 ?_
      refine lv_iload_n hx hb dX8_ask_94 rfl (lv_at hl 3 rfl) ?_
      obtain ⟨h_6, hok⟩ := hok
      refine va_zald (f := (S.2 5)) hx hb hK hP 5 1 rfl rfl h_6 dX8_ask_95 ?_
      refine lv_if_ne (tgt := 118) hx hb dX8_ask_96 (by decide) (fun c_7 => ?_) (fun c_7 => ?_)
      · have hok := okF hok c_7
        have hZ := rsF hZ c_7
        exact w_X8_ask_118 C0 hK hA Z (rs_X8_ask_82 n) (ok_X8_ask_82 n) ih S x1 x2 x3 hok hZ _ _ hP hD hS _ (lv_sub hl [0, 1, 2, 3] rfl)
      · have hok := okT hok c_7
        have hZ := rsT hZ c_7
        refine lv_aload_n hx hb dX8_ask_99 rfl (lv_at hl 0 rfl) ?_
        refine va_get (D := (dC, dI)) (ci := 7) (v := .ref (a 3)) (C := RX8) (T := TX8) (N := 35) hx hb hts iX8_ask_X8 hown hK hP 0 rfl rfl 4 (by decide) (hts (.fieldLink RX8 16 "RiskHouseModel" "started" "[I") (by decide +kernel)) (fun _ h9 => h9) rfl dX8_ask_100 ?_
        refine lv_aload_n hx hb dX8_ask_103 rfl (lv_at hl 0 rfl) ?_
        refine va_get (D := (dC, dI)) (ci := 7) (v := .ref (a 4)) (C := RX8) (T := TX8) (N := 35) hx hb hts iX8_ask_X8 hown hK hP 0 rfl rfl 6 (by decide) (hts (.fieldLink RX8 19 "RiskHouseModel" "editionOf" "[I") (by decide +kernel)) (fun _ h9 => h9) rfl dX8_ask_104 ?_
        refine lv_iload_n hx hb dX8_ask_107 rfl (lv_at hl 3 rfl) ?_
        obtain ⟨h_8, hok⟩ := hok
        refine va_iald (f := (S.2 4)) hx hb hK hP 4 0 rfl rfl h_8 dX8_ask_108 ?_
        obtain ⟨h_9, hok⟩ := hok
        refine va_iald (f := (S.2 13)) hx hb hK hP 3 0 rfl rfl h_9 dX8_ask_109 ?_
        refine lv_iconst (v := 1) hx hb dX8_ask_110 (by decide) ?_
        refine lv_icmp_ne (tgt := 118) hx hb dX8_ask_111 (by decide) (fun c_10 => ?_) (fun c_10 => ?_)
        · have hok := okF hok c_10
          have hZ := rsF hZ c_10
          exact w_X8_ask_118 C0 hK hA Z (rs_X8_ask_82 n) (ok_X8_ask_82 n) ih S x1 x2 x3 hok hZ _ _ hP hD hS _ (lv_sub hl [0, 1, 2, 3] rfl)
        · have hok := okT hok c_10
          have hZ := rsT hZ c_10
          refine lv_iconst (v := 1) hx hb dX8_ask_114 (by decide) ?_
          refine lv_goto (tgt := 119) hx hb dX8_ask_115 (by decide) ?_
          exact w_X8_ask_119 C0 hK hA Z (rs_X8_ask_82 n) (ok_X8_ask_82 n) ih S x1 x2 x3 1 hok hZ _ _ hP hD hS _ (lv_sub hl [0, 1, 2, 3] rfl)
def rs_X8_ask_45 : Nat → St → Int32 → Int32 → Int32 × St
  | 0, S, x1, x2 => (0, S)
  | n + 1, S, x1, x2 => (if 4 ≤ x2 then (rs_X8_ask_82 100 S x1 0 0) else (if ((S.2 13) x2.toNatClampNeg) = 0 then (rs_X8_ask_64 (rs_X8_ask_45 n) (rs_X8_rulesOf S x2).2 x1 x2 ((rs_X8_rulesOf S x2).1)) else (rs_X8_ask_72 (rs_X8_ask_45 n) S x1 x2)))
def ok_X8_ask_45 : Nat → St → Int32 → Int32 → Prop
  | 0, _, _, _ => False
  | n + 1, S, x1, x2 => (if 4 ≤ x2 then ok_X8_ask_82 100 S x1 0 0 else ((vp_in x2 4) ∧ (if ((S.2 13) x2.toNatClampNeg) = 0 then ((ok_X8_rulesOf S x2) ∧ ok_X8_ask_64 (ok_X8_ask_45 n) (rs_X8_rulesOf S x2).2 x1 x2 ((rs_X8_rulesOf S x2).1)) else ok_X8_ask_72 (ok_X8_ask_45 n) S x1 x2)))
set_option maxHeartbeats 4000000 in
set_option maxRecDepth 100000 in
theorem w_X8_ask_45 {p : Program} {l : Launch} {e : Env} {s : State} {m : MethodId} {args : Array Value} {below : List Frame} {meth : Method} {c : Code} {dC : Nat → ClassId} {dI : Nat → Nat → Nat} {cI cZ : ClassId} {a : Nat → Nat} {A : Nat → Prop} (C0 : Cx p s m args meth c RX8 cX8_ask (some .int) 5 wsX8_ask) (hK : va_K (dC, dI) vwCl (tI cI cZ) s) (hA : ∀ q, s.heap.size ≤ q → A q) (Z : Int32 × St) : ∀ (n : Nat) (S : St) (x1 : Int32) (x2 : Int32) (hok : ok_X8_ask_45 n S x1 x2) (hZ : rs_X8_ask_45 n S x1 x2 = Z) (H : Heap) (locs : List Loc) (hP : va_P (dC, dI) vwCl (mW cI cZ a S) H) (hD : va_D A (mW cI cZ a S)) (hS : va_S A s.heap H locs) (ls : Array Slot) (hl : lv_has ls 5 [(0, .ref (a 0)), (1, .int x1), (2, .int x2)]), W p l e rm_X8_ask s m args below meth c H locs 0 0 (MQ below (va_Qi (fun (r : Int32) (u : St) => (r, u) = Z) (mWB dC dI cI cZ a A) A) args s 0 0 A) (F0 m 45 ls []) := by
  obtain ⟨hx, hb, hr, hml, hown, hts, hlocks⟩ := id C0
  intro n
  induction n with
  | zero => intro S x1 x2 hok; exact absurd hok (fun h => h)
  | succ n ih =>
    intro S x1 x2 hok hZ H locs hP hD hS ls hl
    rw [ok_X8_ask_45] at hok
    rw [rs_X8_ask_45] at hZ
    refine lv_iload_n hx hb dX8_ask_45 rfl (lv_at hl 2 rfl) ?_
    refine lv_iconst (v := 4) hx hb dX8_ask_46 (by decide) ?_
    refine lv_icmp_ge (tgt := 78) hx hb dX8_ask_47 (by decide) (fun c_1 => ?_) (fun c_1 => ?_)
    · have hok := okT hok c_1
      have hZ := rsT hZ c_1
      refine lv_iconst (v := 0) hx hb dX8_ask_78 (by decide) ?_
      refine lv_istore_n (lv' := [(2, .int 0), (0, .ref (a 0)), (1, .int x1)]) hx hb dX8_ask_79 rfl hl (by decide) rfl (fun ls hl => ?_)
      refine lv_iconst (v := 0) hx hb dX8_ask_80 (by decide) ?_
      refine lv_istore_n (lv' := [(3, .int 0), (2, .int 0), (0, .ref (a 0)), (1, .int x1)]) hx hb dX8_ask_81 rfl hl (by decide) rfl (fun ls hl => ?_)
      exact w_X8_ask_82 C0 hK hA Z 100 S x1 0 0 hok hZ _ _ hP hD hS _ (lv_sub hl [2, 3, 1, 0] rfl)
    · have hok := okF hok c_1
      have hZ := rsF hZ c_1
      refine lv_aload_n hx hb dX8_ask_50 rfl (lv_at hl 0 rfl) ?_
      refine va_get (D := (dC, dI)) (ci := 7) (v := .ref (a 3)) (C := RX8) (T := TX8) (N := 35) hx hb hts iX8_ask_X8 hown hK hP 0 rfl rfl 4 (by decide) (hts (.fieldLink RX8 16 "RiskHouseModel" "started" "[I") (by decide +kernel)) (fun _ h9 => h9) rfl dX8_ask_51 ?_
      refine lv_iload_n hx hb dX8_ask_54 rfl (lv_at hl 2 rfl) ?_
      obtain ⟨h_2, hok⟩ := hok
      refine va_iald (f := (S.2 13)) hx hb hK hP 3 0 rfl rfl h_2 dX8_ask_55 ?_
      refine lv_if_ne (tgt := 72) hx hb dX8_ask_56 (by decide) (fun c_3 => ?_) (fun c_3 => ?_)
      · have hok := okF hok c_3
        have hZ := rsF hZ c_3
        exact w_X8_ask_72 C0 hK hA Z (rs_X8_ask_45 n) (ok_X8_ask_45 n) ih S x1 x2 hok hZ _ _ hP hD hS _ (lv_sub hl [0, 1, 2] rfl)
      · have hok := okT hok c_3
        have hZ := rsT hZ c_3
        refine lv_aload_n hx hb dX8_ask_59 rfl (lv_at hl 0 rfl) ?_
        refine lv_iload_n hx hb dX8_ask_60 rfl (lv_at hl 2 rfl) ?_
        obtain ⟨k_4, hok⟩ := hok
        have hFc := wFw (w := mW cI cZ a S) hD hS hA
        refine va_calli (va_runV (As := [.int x2]) (rest := []) ⟨hx, hb, hml, hown, hts⟩ (c_X8_rulesOf l dC dI cI cZ a H.size S x2 k_4) (cwV 1 hts gX8_ask_X8_rulesOf rfl rfl rfl (by decide +kernel) ⟨Nat.le_of_ble_eq_true rfl, Nat.le_of_ble_eq_true rfl⟩) ⟨wBl, va_recv hK hP (ci := 7) (q0 := 0) rfl rfl, fun U hU hW => ⟨rfl, by rw [hU], by rw [hU]; exact hP, va_K.moved hW.alike hK, hD.weaken (fun _ _ _ _ => trivial)⟩⟩ rfl rfl hl.1 rfl (lv_room (Nat.le_of_ble_eq_true rfl)) dX8_ask_61 ⟨Nat.zero_le _, Nat.zero_le _⟩) hS (fun q _ h => hFc q h) hFc (fun r u t H1 locs ht hvm hw hB hz1 hk1 hS => ?_)
        obtain ⟨hP, hD⟩ := wJn ht hFc hB.1 hB.2.2
        have e1 : r = (rs_X8_rulesOf S x2).1 := congrArg Prod.fst hw
        have e2 : u = (rs_X8_rulesOf S x2).2 := congrArg Prod.snd hw
        rw [e1]
        rw [e2] at hP hD
        generalize H1 = H at hP hS ⊢
        exact w_X8_ask_64 C0 hK hA Z (rs_X8_ask_45 n) (ok_X8_ask_45 n) ih (rs_X8_rulesOf S x2).2 x1 x2 ((rs_X8_rulesOf S x2).1) hok hZ _ _ hP hD hS _ (lv_sub hl [0, 1, 2] rfl)
def rs_X8_ask_33 (S : St) (x1 : Int32) : Int32 × St := (rs_X8_ask_45 100 (sA S 23 (S.1 686).toNatClampNeg 0) x1 0)
def ok_X8_ask_33 (S : St) (x1 : Int32) : Prop := ((vp_in (S.1 686) 40) ∧ ok_X8_ask_45 100 (sA S 23 (S.1 686).toNatClampNeg 0) x1 0)
set_option maxHeartbeats 4000000 in
set_option maxRecDepth 100000 in
theorem w_X8_ask_33 {p : Program} {l : Launch} {e : Env} {s : State} {m : MethodId} {args : Array Value} {below : List Frame} {meth : Method} {c : Code} {dC : Nat → ClassId} {dI : Nat → Nat → Nat} {cI cZ : ClassId} {a : Nat → Nat} {A : Nat → Prop} (C0 : Cx p s m args meth c RX8 cX8_ask (some .int) 5 wsX8_ask) (hK : va_K (dC, dI) vwCl (tI cI cZ) s) (hA : ∀ q, s.heap.size ≤ q → A q) (Z : Int32 × St) (S : St) (x1 : Int32) (hok : ok_X8_ask_33 S x1) (hZ : rs_X8_ask_33 S x1 = Z) (H : Heap) (locs : List Loc) (hP : va_P (dC, dI) vwCl (mW cI cZ a S) H) (hD : va_D A (mW cI cZ a S)) (hS : va_S A s.heap H locs) (ls : Array Slot) (hl : lv_has ls 5 [(0, .ref (a 0)), (1, .int x1)]) : W p l e rm_X8_ask s m args below meth c H locs 0 0 (MQ below (va_Qi (fun (r : Int32) (u : St) => (r, u) = Z) (mWB dC dI cI cZ a A) A) args s 0 0 A) (F0 m 33 ls []) := by
  obtain ⟨hx, hb, hr, hml, hown, hts, hlocks⟩ := id C0
  rw [ok_X8_ask_33] at hok
  rw [rs_X8_ask_33] at hZ
  refine lv_aload_n hx hb dX8_ask_33 rfl (lv_at hl 0 rfl) ?_
  refine va_get (D := (dC, dI)) (ci := 7) (v := .ref (a 18)) (C := RX8) (T := TX8) (N := 35) hx hb hts iX8_ask_X8 hown hK hP 0 rfl rfl 25 (by decide) (hts (.fieldLink RX8 66 "RiskHouseModel" "badRules" "[I") (by decide +kernel)) (fun _ h9 => h9) rfl dX8_ask_34 ?_
  refine lv_aload_n hx hb dX8_ask_37 rfl (lv_at hl 0 rfl) ?_
  refine va_get (D := (dC, dI)) (ci := 7) (v := .int (S.1 686)) (C := RX8) (T := TX8) (N := 35) hx hb hts iX8_ask_X8 hown hK hP 0 rfl rfl 19 (by decide) (hts (.fieldLink RX8 142 "RiskHouseModel" "cases" "I") (by decide +kernel)) (fun _ h9 => h9) rfl dX8_ask_38 ?_
  refine lv_iconst (v := 0) hx hb dX8_ask_41 (by decide) ?_
  obtain ⟨h_1, hok⟩ := hok
  refine va_iast hx hb hK hP hD hS 18 0 rfl rfl h_1 dX8_ask_42 (fun H locs hP hD hS => ?_)
  have hP : va_P (dC, dI) vwCl (mW cI cZ a (sA S 23 (S.1 686).toNatClampNeg 0)) H := hP
  have hD : va_D A (mW cI cZ a (sA S 23 (S.1 686).toNatClampNeg 0)) := hD
  refine lv_iconst (v := 0) hx hb dX8_ask_43 (by decide) ?_
  refine lv_istore_n (lv' := [(2, .int 0), (0, .ref (a 0)), (1, .int x1)]) hx hb dX8_ask_44 rfl hl (by decide) rfl (fun ls hl => ?_)
  exact w_X8_ask_45 C0 hK hA Z 100 (sA S 23 (S.1 686).toNatClampNeg 0) x1 0 hok hZ _ _ hP hD hS _ (lv_sub hl [1, 2, 0] rfl)
def rs_X8_ask (S : St) (x1 : Int32) : Int32 × St := (if (rs_X8_isFour x1) = 0 then (rs_X8_ask_12 (rs_X8_refuse S 1).2 ((rs_X8_refuse S 1).1)) else (if (S.1 686) = 40 then (rs_X8_ask_27 (rs_X8_refuse S 2).2 ((rs_X8_refuse S 2).1)) else (rs_X8_ask_33 (sI S 2000 0) x1)))
def ok_X8_ask (S : St) (x1 : Int32) : Prop := ((ok_X8_isFour x1) ∧ (if (rs_X8_isFour x1) = 0 then ((ok_X8_refuse S 1) ∧ ok_X8_ask_12 (rs_X8_refuse S 1).2 ((rs_X8_refuse S 1).1)) else (if (S.1 686) = 40 then ((ok_X8_refuse S 2) ∧ ok_X8_ask_27 (rs_X8_refuse S 2).2 ((rs_X8_refuse S 2).1)) else ok_X8_ask_33 (sI S 2000 0) x1)))
set_option maxHeartbeats 4000000 in
set_option maxRecDepth 100000 in
theorem w_X8_ask {p : Program} {l : Launch} {e : Env} {s : State} {m : MethodId} {args : Array Value} {below : List Frame} {meth : Method} {c : Code} {dC : Nat → ClassId} {dI : Nat → Nat → Nat} {cI cZ : ClassId} {a : Nat → Nat} {A : Nat → Prop} (C0 : Cx p s m args meth c RX8 cX8_ask (some .int) 5 wsX8_ask) (hK : va_K (dC, dI) vwCl (tI cI cZ) s) (hA : ∀ q, s.heap.size ≤ q → A q) (Z : Int32 × St) (S : St) (x1 : Int32) (hok : ok_X8_ask S x1) (hZ : rs_X8_ask S x1 = Z) (H : Heap) (locs : List Loc) (hP : va_P (dC, dI) vwCl (mW cI cZ a S) H) (hD : va_D A (mW cI cZ a S)) (hS : va_S A s.heap H locs) (ls : Array Slot) (hl : lv_has ls 5 [(0, .ref (a 0)), (1, .int x1)]) : W p l e rm_X8_ask s m args below meth c H locs 0 0 (MQ below (va_Qi (fun (r : Int32) (u : St) => (r, u) = Z) (mWB dC dI cI cZ a A) A) args s 0 0 A) (F0 m 0 ls []) := by
  obtain ⟨hx, hb, hr, hml, hown, hts, hlocks⟩ := id C0
  rw [ok_X8_ask] at hok
  rw [rs_X8_ask] at hZ
  refine lv_iload_n hx hb dX8_ask_0 rfl (lv_at hl 1 rfl) ?_
  obtain ⟨k_1, hok⟩ := hok
  have hFc := wFr hS hA
  refine va_calli (va_runS (As := [.int x1]) (rest := []) ⟨hx, hb, hml, hown, hts⟩ (c_X8_isFour l H.size x1 k_1) (va_cwS 1 hts gX8_ask_X8_isFour rfl rfl rfl (by decide +kernel) ⟨Nat.le_of_ble_eq_true rfl, Nat.le_of_ble_eq_true rfl⟩) ⟨fun a9 U g9 mk9 q9 => q9, fun U hU hW => ⟨rfl, congrArg Array.size hU⟩⟩ rfl rfl hl.1 rfl (lv_room (Nat.le_of_ble_eq_true rfl)) dX8_ask_1 ⟨Nat.zero_le _, Nat.zero_le _⟩) hS (fun q _ h => hFc q h) hFc (fun r u t H1 locs ht hvm hw hB hz1 hk1 hS => ?_)
  have hP := wKp hP hk1
  subst hw
  generalize H1 = H at hP hS ⊢
  refine lv_if_ne (tgt := 13) hx hb dX8_ask_4 (by decide) (fun c_2 => ?_) (fun c_2 => ?_)
  · have hok := okF hok c_2
    have hZ := rsF hZ c_2
    refine lv_aload_n hx hb dX8_ask_13 rfl (lv_at hl 0 rfl) ?_
    refine va_get (D := (dC, dI)) (ci := 7) (v := .int (S.1 686)) (C := RX8) (T := TX8) (N := 35) hx hb hts iX8_ask_X8 hown hK hP 0 rfl rfl 19 (by decide) (hts (.fieldLink RX8 142 "RiskHouseModel" "cases" "I") (by decide +kernel)) (fun _ h9 => h9) rfl dX8_ask_14 ?_
    refine lv_bipush (v := 40) hx hb dX8_ask_17 (by decide) ?_
    refine lv_icmp_ne (tgt := 28) hx hb dX8_ask_19 (by decide) (fun c_3 => ?_) (fun c_3 => ?_)
    · have hok := okF hok c_3
      have hZ := rsF hZ c_3
      refine lv_aload_n hx hb dX8_ask_28 rfl (lv_at hl 0 rfl) ?_
      refine lv_iconst (v := 0) hx hb dX8_ask_29 (by decide) ?_
      refine va_put (D := (dC, dI)) (ci := 7) (v := .int 0) (ty := .int) (C := RX8) (T := TX8) (N := 35) hx hb hts iX8_ask_X8 tyX8 tyX8_ok nmX8 hown hK hP hD hS 0 rfl rfl 0 (by decide) (hts (.fieldLink RX8 88 "RiskHouseModel" "thrown" "I") (by decide +kernel)) (fun _ h9 => h9) rfl (by decide +kernel) rfl rfl (Nat.le_of_ble_eq_true rfl) dX8_ask_30 (fun H locs hP hD hS => ?_)
      have hP : va_P (dC, dI) vwCl (mW cI cZ a (sI S 2000 0)) H := hP
      have hD : va_D A (mW cI cZ a (sI S 2000 0)) := hD
      exact w_X8_ask_33 C0 hK hA Z (sI S 2000 0) x1 hok hZ _ _ hP hD hS _ (lv_sub hl [0, 1] rfl)
    · have hok := okT hok c_3
      have hZ := rsT hZ c_3
      refine lv_aload_n hx hb dX8_ask_22 rfl (lv_at hl 0 rfl) ?_
      refine lv_iconst (v := 2) hx hb dX8_ask_23 (by decide) ?_
      obtain ⟨k_4, hok⟩ := hok
      have hFc := wFw (w := mW cI cZ a S) hD hS hA
      refine va_calli (va_runV (As := [.int 2]) (rest := []) ⟨hx, hb, hml, hown, hts⟩ (c_X8_refuse l dC dI cI cZ a H.size S 2 k_4) (cwV 1 hts gX8_ask_X8_refuse rfl rfl rfl (by decide +kernel) ⟨Nat.le_of_ble_eq_true rfl, Nat.le_of_ble_eq_true rfl⟩) ⟨wBl, va_recv hK hP (ci := 7) (q0 := 0) rfl rfl, fun U hU hW => ⟨rfl, by rw [hU], by rw [hU]; exact hP, va_K.moved hW.alike hK, hD.weaken (fun _ _ _ _ => trivial)⟩⟩ rfl rfl hl.1 rfl (lv_room (Nat.le_of_ble_eq_true rfl)) dX8_ask_24 ⟨Nat.zero_le _, Nat.zero_le _⟩) hS (fun q _ h => hFc q h) hFc (fun r u t H1 locs ht hvm hw hB hz1 hk1 hS => ?_)
      obtain ⟨hP, hD⟩ := wJn ht hFc hB.1 hB.2.2
      have e1 : r = (rs_X8_refuse S 2).1 := congrArg Prod.fst hw
      have e2 : u = (rs_X8_refuse S 2).2 := congrArg Prod.snd hw
      rw [e1]
      rw [e2] at hP hD
      generalize H1 = H at hP hS ⊢
      exact w_X8_ask_27 C0 hK hA Z (rs_X8_refuse S 2).2 ((rs_X8_refuse S 2).1) hok hZ _ _ hP hD hS _ (lv_sub hl [] rfl)
  · have hok := okT hok c_2
    have hZ := rsT hZ c_2
    refine lv_aload_n hx hb dX8_ask_7 rfl (lv_at hl 0 rfl) ?_
    refine lv_iconst (v := 1) hx hb dX8_ask_8 (by decide) ?_
    obtain ⟨k_5, hok⟩ := hok
    have hFc := wFw (w := mW cI cZ a S) hD hS hA
    refine va_calli (va_runV (As := [.int 1]) (rest := []) ⟨hx, hb, hml, hown, hts⟩ (c_X8_refuse l dC dI cI cZ a H.size S 1 k_5) (cwV 1 hts gX8_ask_X8_refuse rfl rfl rfl (by decide +kernel) ⟨Nat.le_of_ble_eq_true rfl, Nat.le_of_ble_eq_true rfl⟩) ⟨wBl, va_recv hK hP (ci := 7) (q0 := 0) rfl rfl, fun U hU hW => ⟨rfl, by rw [hU], by rw [hU]; exact hP, va_K.moved hW.alike hK, hD.weaken (fun _ _ _ _ => trivial)⟩⟩ rfl rfl hl.1 rfl (lv_room (Nat.le_of_ble_eq_true rfl)) dX8_ask_9 ⟨Nat.zero_le _, Nat.zero_le _⟩) hS (fun q _ h => hFc q h) hFc (fun r u t H1 locs ht hvm hw hB hz1 hk1 hS => ?_)
    obtain ⟨hP, hD⟩ := wJn ht hFc hB.1 hB.2.2
    have e1 : r = (rs_X8_refuse S 1).1 := congrArg Prod.fst hw
    have e2 : u = (rs_X8_refuse S 1).2 := congrArg Prod.snd hw
    rw [e1]
    rw [e2] at hP hD
    generalize H1 = H at hP hS ⊢
    exact w_X8_ask_12 C0 hK hA Z (rs_X8_refuse S 1).2 ((rs_X8_refuse S 1).1) hok hZ _ _ hP hD hS _ (lv_sub hl [] rfl)
set_option maxHeartbeats 4000000 in
set_option maxRecDepth 100000 in
theorem c_X8_ask (l : Launch) (dC : Nat → ClassId) (dI : Nat → Nat → Nat) (cI cZ : ClassId) (a : Nat → Nat) (sz : Nat) (S : St) (x1 : Int32) (hok : ok_X8_ask S x1) : Met l yX8_ask wsX8_ask rm_X8_ask (va_Pc [.ref (a 0), .int x1] (mWP dC dI cI cZ a sz S)) (va_Qi (fun (r : Int32) (u : St) => (r, u) = rs_X8_ask S x1) (mWB dC dI cI cZ a (va_A (mW cI cZ a S) sz)) (va_A (mW cI cZ a S) sz)) 0 0 (va_A (mW cI cZ a S) sz) := by
  refine Met.ofW (cc := cX8_ask) (maxL := 5) (ret := (some .int)) (by decide) rfl ?_
  intro p e s m args below meth c s₁ B hml hv
  obtain ⟨rfl, hsz, hP, hK, hD0⟩ := hv
  subst hsz
  have hD := hD0.self (sz := s.heap.size)
  have hl := lv_entry ([.ref (a 0), .int x1]) (n := 5) (Nat.le_of_ble_eq_true rfl)
  rw [lg_entry_eq]
  generalize (lg_sl ([.ref (a 0), .int x1]) ++ List.replicate (5 - (lg_sl ([.ref (a 0), .int x1])).length) Slot.unset).toArray = ls at hl ⊢
  have hl : lv_has ls 5 [(0, .ref (a 0)), (1, .int x1)] := hl
  exact w_X8_ask ⟨B.exec, B.bytes, B.returns, hml, findClass_of_methodNamed B.named, atoms_spec (ws := wsX8_ask) B.pre, B.notSynchronized⟩ hK (fun q h => Or.inr h) _ S x1 hok rfl _ _ hP hD va_S.rf ls hl
abbrev rm_X8_ahead : Room := { frames := 0, cells := 0, slots := 0, locals := 0 }
theorem iX8_ahead_X8 : ∀ w ∈ wsX80, w ∈ wsX8_ahead := by decide +kernel
def rs_X8_ahead_99 (k : St → Int32 → Int32 → Int32 → Int32 × St) (S : St) (x1 : Int32) (x3 : Int32) (z0 : Int32) (z1 : Int32) : Int32 × St := (k S x1 (z0 + z1) (x3 + 1))
def ok_X8_ahead_99 (kk : St → Int32 → Int32 → Int32 → Prop) (S : St) (x1 : Int32) (x3 : Int32) (z0 : Int32) (z1 : Int32) : Prop := kk S x1 (z0 + z1) (x3 + 1)
set_option maxHeartbeats 4000000 in
set_option maxRecDepth 100000 in
theorem w_X8_ahead_99 {p : Program} {l : Launch} {e : Env} {s : State} {m : MethodId} {args : Array Value} {below : List Frame} {meth : Method} {c : Code} {dC : Nat → ClassId} {dI : Nat → Nat → Nat} {cI cZ : ClassId} {a : Nat → Nat} {A : Nat → Prop} (C0 : Cx p s m args meth c RX8 cX8_ahead (some .int) 5 wsX8_ahead) (hK : va_K (dC, dI) vwCl (tI cI cZ) s) (hA : ∀ q, s.heap.size ≤ q → A q) (Z : Int32 × St) (k : St → Int32 → Int32 → Int32 → Int32 × St) (kk : St → Int32 → Int32 → Int32 → Prop) (hk : ∀ (S : St) (x1 : Int32) (x2 : Int32) (x3 : Int32) (hok : kk S x1 x2 x3) (hZ : k S x1 x2 x3 = Z) (H : Heap) (locs : List Loc) (hP : va_P (dC, dI) vwCl (mW cI cZ a S) H) (hD : va_D A (mW cI cZ a S)) (hS : va_S A s.heap H locs) (ls : Array Slot) (hl : lv_has ls 5 [(0, .ref (a 0)), (1, .int x1), (2, .int x2), (3, .int x3)]), W p l e rm_X8_ahead s m args below meth c H locs 0 0 (MQ below (va_Qi (fun (r : Int32) (u : St) => (r, u) = Z) (mWB dC dI cI cZ a A) A) args s 0 0 A) (F0 m 4 ls [])) (S : St) (x1 : Int32) (x3 : Int32) (z0 : Int32) (z1 : Int32) (hok : ok_X8_ahead_99 kk S x1 x3 z0 z1) (hZ : rs_X8_ahead_99 k S x1 x3 z0 z1 = Z) (H : Heap) (locs : List Loc) (hP : va_P (dC, dI) vwCl (mW cI cZ a S) H) (hD : va_D A (mW cI cZ a S)) (hS : va_S A s.heap H locs) (ls : Array Slot) (hl : lv_has ls 5 [(0, .ref (a 0)), (1, .int x1), (3, .int x3)]) : W p l e rm_X8_ahead s m args below meth c H locs 0 0 (MQ below (va_Qi (fun (r : Int32) (u : St) => (r, u) = Z) (mWB dC dI cI cZ a A) A) args s 0 0 A) (F0 m 99 ls [.int z1, .int z0]) := by
  obtain ⟨hx, hb, hr, hml, hown, hts, hlocks⟩ := id C0
  rw [ok_X8_ahead_99] at hok
  rw [rs_X8_ahead_99] at hZ
  refine lv_iadd hx hb dX8_ahead_99 ?_
  refine lv_istore_n (lv' := [(2, .int (z0 + z1)), (0, .ref (a 0)), (1, .int x1), (3, .int x3)]) hx hb dX8_ahead_100 rfl hl (by decide) rfl (fun ls hl => ?_)
  refine lv_iinc (v := (x3 + 1)) (lv' := [(3, .int (x3 + 1)), (2, .int (z0 + z1)), (0, .ref (a 0)), (1, .int x1)]) hx hb dX8_ahead_101 hl (k := 3) rfl rfl (by decide) rfl (fun ls hl => ?_)
  refine lv_goto (tgt := 4) hx hb dX8_ahead_104 (by decide) ?_
  exact hk S x1 (z0 + z1) (x3 + 1) hok hZ _ _ hP hD hS _ (lv_sub hl [2, 3, 1, 0] rfl)
def rs_X8_ahead_94 (k : St → Int32 → Int32 → Int32 → Int32 × St) (S : St) (x1 : Int32) (x3 : Int32) (z0 : Int32) : Int32 × St := (rs_X8_ahead_99 k S x1 x3 z0 1)
def ok_X8_ahead_94 (kk : St → Int32 → Int32 → Int32 → Prop) (S : St) (x1 : Int32) (x3 : Int32) (z0 : Int32) : Prop := ok_X8_ahead_99 kk S x1 x3 z0 1
set_option maxHeartbeats 4000000 in
set_option maxRecDepth 100000 in
theorem w_X8_ahead_94 {p : Program} {l : Launch} {e : Env} {s : State} {m : MethodId} {args : Array Value} {below : List Frame} {meth : Method} {c : Code} {dC : Nat → ClassId} {dI : Nat → Nat → Nat} {cI cZ : ClassId} {a : Nat → Nat} {A : Nat → Prop} (C0 : Cx p s m args meth c RX8 cX8_ahead (some .int) 5 wsX8_ahead) (hK : va_K (dC, dI) vwCl (tI cI cZ) s) (hA : ∀ q, s.heap.size ≤ q → A q) (Z : Int32 × St) (k : St → Int32 → Int32 → Int32 → Int32 × St) (kk : St → Int32 → Int32 → Int32 → Prop) (hk : ∀ (S : St) (x1 : Int32) (x2 : Int32) (x3 : Int32) (hok : kk S x1 x2 x3) (hZ : k S x1 x2 x3 = Z) (H : Heap) (locs : List Loc) (hP : va_P (dC, dI) vwCl (mW cI cZ a S) H) (hD : va_D A (mW cI cZ a S)) (hS : va_S A s.heap H locs) (ls : Array Slot) (hl : lv_has ls 5 [(0, .ref (a 0)), (1, .int x1), (2, .int x2), (3, .int x3)]), W p l e rm_X8_ahead s m args below meth c H locs 0 0 (MQ below (va_Qi (fun (r : Int32) (u : St) => (r, u) = Z) (mWB dC dI cI cZ a A) A) args s 0 0 A) (F0 m 4 ls [])) (S : St) (x1 : Int32) (x3 : Int32) (z0 : Int32) (hok : ok_X8_ahead_94 kk S x1 x3 z0) (hZ : rs_X8_ahead_94 k S x1 x3 z0 = Z) (H : Heap) (locs : List Loc) (hP : va_P (dC, dI) vwCl (mW cI cZ a S) H) (hD : va_D A (mW cI cZ a S)) (hS : va_S A s.heap H locs) (ls : Array Slot) (hl : lv_has ls 5 [(0, .ref (a 0)), (1, .int x1), (3, .int x3)]) : W p l e rm_X8_ahead s m args below meth c H locs 0 0 (MQ below (va_Qi (fun (r : Int32) (u : St) => (r, u) = Z) (mWB dC dI cI cZ a A) A) args s 0 0 A) (F0 m 94 ls [.int z0]) := by
  obtain ⟨hx, hb, hr, hml, hown, hts, hlocks⟩ := id C0
  rw [ok_X8_ahead_94] at hok
  rw [rs_X8_ahead_94] at hZ
  refine lv_iconst (v := 1) hx hb dX8_ahead_94 (by decide) ?_
  refine lv_goto (tgt := 99) hx hb dX8_ahead_95 (by decide) ?_
  exact w_X8_ahead_99 C0 hK hA Z k kk hk S x1 x3 z0 1 hok hZ _ _ hP hD hS _ (lv_sub hl [0, 1, 2] rfl)
def rs_X8_ahead_98 (k : St → Int32 → Int32 → Int32 → Int32 × St) (S : St) (x1 : Int32) (x3 : Int32) (z0 : Int32) : Int32 × St := (rs_X8_ahead_99 k S x1 x3 z0 0)
def ok_X8_ahead_98 (kk : St → Int32 → Int32 → Int32 → Prop) (S : St) (x1 : Int32) (x3 : Int32) (z0 : Int32) : Prop := ok_X8_ahead_99 kk S x1 x3 z0 0
set_option maxHeartbeats 4000000 in
set_option maxRecDepth 100000 in
theorem w_X8_ahead_98 {p : Program} {l : Launch} {e : Env} {s : State} {m : MethodId} {args : Array Value} {below : List Frame} {meth : Method} {c : Code} {dC : Nat → ClassId} {dI : Nat → Nat → Nat} {cI cZ : ClassId} {a : Nat → Nat} {A : Nat → Prop} (C0 : Cx p s m args meth c RX8 cX8_ahead (some .int) 5 wsX8_ahead) (hK : va_K (dC, dI) vwCl (tI cI cZ) s) (hA : ∀ q, s.heap.size ≤ q → A q) (Z : Int32 × St) (k : St → Int32 → Int32 → Int32 → Int32 × St) (kk : St → Int32 → Int32 → Int32 → Prop) (hk : ∀ (S : St) (x1 : Int32) (x2 : Int32) (x3 : Int32) (hok : kk S x1 x2 x3) (hZ : k S x1 x2 x3 = Z) (H : Heap) (locs : List Loc) (hP : va_P (dC, dI) vwCl (mW cI cZ a S) H) (hD : va_D A (mW cI cZ a S)) (hS : va_S A s.heap H locs) (ls : Array Slot) (hl : lv_has ls 5 [(0, .ref (a 0)), (1, .int x1), (2, .int x2), (3, .int x3)]), W p l e rm_X8_ahead s m args below meth c H locs 0 0 (MQ below (va_Qi (fun (r : Int32) (u : St) => (r, u) = Z) (mWB dC dI cI cZ a A) A) args s 0 0 A) (F0 m 4 ls [])) (S : St) (x1 : Int32) (x3 : Int32) (z0 : Int32) (hok : ok_X8_ahead_98 kk S x1 x3 z0) (hZ : rs_X8_ahead_98 k S x1 x3 z0 = Z) (H : Heap) (locs : List Loc) (hP : va_P (dC, dI) vwCl (mW cI cZ a S) H) (hD : va_D A (mW cI cZ a S)) (hS : va_S A s.heap H locs) (ls : Array Slot) (hl : lv_has ls 5 [(0, .ref (a 0)), (1, .int x1), (3, .int x3)]) : W p l e rm_X8_ahead s m args below meth c H locs 0 0 (MQ below (va_Qi (fun (r : Int32) (u : St) => (r, u) = Z) (mWB dC dI cI cZ a A) A) args s 0 0 A) (F0 m 98 ls [.int z0]) := by
  obtain ⟨hx, hb, hr, hml, hown, hts, hlocks⟩ := id C0
  rw [ok_X8_ahead_98] at hok
  rw [rs_X8_ahead_98] at hZ
  refine lv_iconst (v := 0) hx hb dX8_ahead_98 (by decide) ?_
  exact w_X8_ahead_99 C0 hK hA Z k kk hk S x1 x3 z0 0 hok hZ _ _ hP hD hS _ (lv_sub hl [0, 1, 2] rfl)
def rs_X8_ahead_51 (k : St → Int32 → Int32 → Int32 → Int32 × St) (S : St) (x1 : Int32) (x2 : Int32) (x3 : Int32) (z0 : Int32) : Int32 × St := (if z0 = 0 then (rs_X8_ahead_98 k S x1 x3 x2) else (if ((S.2 19) x1.toNatClampNeg) < ((S.2 19) x3.toNatClampNeg) then (rs_X8_ahead_94 k S x1 x3 x2) else (if ((S.2 19) x3.toNatClampNeg) = ((S.2 19) x1.toNatClampNeg) then (if x1 ≤ x3 then (rs_X8_ahead_98 k S x1 x3 x2) else (rs_X8_ahead_94 k S x1 x3 x2)) else (rs_X8_ahead_98 k S x1 x3 x2))))
def ok_X8_ahead_51 (kk : St → Int32 → Int32 → Int32 → Prop) (S : St) (x1 : Int32) (x2 : Int32) (x3 : Int32) (z0 : Int32) : Prop := (if z0 = 0 then ok_X8_ahead_98 kk S x1 x3 x2 else ((vp_in x3 40) ∧ ((vp_in x1 40) ∧ (if ((S.2 19) x1.toNatClampNeg) < ((S.2 19) x3.toNatClampNeg) then ok_X8_ahead_94 kk S x1 x3 x2 else ((vp_in x3 40) ∧ ((vp_in x1 40) ∧ (if ((S.2 19) x3.toNatClampNeg) = ((S.2 19) x1.toNatClampNeg) then (if x1 ≤ x3 then ok_X8_ahead_98 kk S x1 x3 x2 else ok_X8_ahead_94 kk S x1 x3 x2) else ok_X8_ahead_98 kk S x1 x3 x2)))))))
set_option maxHeartbeats 4000000 in
set_option maxRecDepth 100000 in
theorem w_X8_ahead_51 {p : Program} {l : Launch} {e : Env} {s : State} {m : MethodId} {args : Array Value} {below : List Frame} {meth : Method} {c : Code} {dC : Nat → ClassId} {dI : Nat → Nat → Nat} {cI cZ : ClassId} {a : Nat → Nat} {A : Nat → Prop} (C0 : Cx p s m args meth c RX8 cX8_ahead (some .int) 5 wsX8_ahead) (hK : va_K (dC, dI) vwCl (tI cI cZ) s) (hA : ∀ q, s.heap.size ≤ q → A q) (Z : Int32 × St) (k : St → Int32 → Int32 → Int32 → Int32 × St) (kk : St → Int32 → Int32 → Int32 → Prop) (hk : ∀ (S : St) (x1 : Int32) (x2 : Int32) (x3 : Int32) (hok : kk S x1 x2 x3) (hZ : k S x1 x2 x3 = Z) (H : Heap) (locs : List Loc) (hP : va_P (dC, dI) vwCl (mW cI cZ a S) H) (hD : va_D A (mW cI cZ a S)) (hS : va_S A s.heap H locs) (ls : Array Slot) (hl : lv_has ls 5 [(0, .ref (a 0)), (1, .int x1), (2, .int x2), (3, .int x3)]), W p l e rm_X8_ahead s m args below meth c H locs 0 0 (MQ below (va_Qi (fun (r : Int32) (u : St) => (r, u) = Z) (mWB dC dI cI cZ a A) A) args s 0 0 A) (F0 m 4 ls [])) (S : St) (x1 : Int32) (x2 : Int32) (x3 : Int32) (z0 : Int32) (hok : ok_X8_ahead_51 kk S x1 x2 x3 z0) (hZ : rs_X8_ahead_51 k S x1 x2 x3 z0 = Z) (H : Heap) (locs : List Loc) (hP : va_P (dC, dI) vwCl (mW cI cZ a S) H) (hD : va_D A (mW cI cZ a S)) (hS : va_S A s.heap H locs) (ls : Array Slot) (hl : lv_has ls 5 [(0, .ref (a 0)), (1, .int x1), (2, .int x2), (3, .int x3)]) : W p l e rm_X8_ahead s m args below meth c H locs 0 0 (MQ below (va_Qi (fun (r : Int32) (u : St) => (r, u) = Z) (mWB dC dI cI cZ a A) A) args s 0 0 A) (F0 m 51 ls [.int z0]) := by
  obtain ⟨hx, hb, hr, hml, hown, hts, hlocks⟩ := id C0
  rw [ok_X8_ahead_51] at hok
  rw [rs_X8_ahead_51] at hZ
  refine lv_istore (lv' := [(4, .int z0), (0, .ref (a 0)), (1, .int x1), (2, .int x2), (3, .int x3)]) hx hb dX8_ahead_51 hl (by decide) rfl (fun ls hl => ?_)
  refine lv_iload_n hx hb dX8_ahead_53 rfl (lv_at hl 3 rfl) ?_
  refine lv_iload hx hb dX8_ahead_54 (lv_at hl 0 rfl) ?_
  refine lv_if_eq (tgt := 98) hx hb dX8_ahead_56 (by decide) (fun c_1 => ?_) (fun c_1 => ?_)
  · have hok := okT hok c_1
    have hZ := rsT hZ c_1
    exact w_X8_ahead_98 C0 hK hA Z k kk hk S x1 x3 x2 hok hZ _ _ hP hD hS _ (lv_sub hl [1, 2, 4] rfl)
  · have hok := okF hok c_1
    have hZ := rsF hZ c_1
    refine lv_aload_n hx hb dX8_ahead_59 rfl (lv_at hl 1 rfl) ?_
    refine va_get (D := (dC, dI)) (ci := 7) (v := .ref (a 14)) (C := RX8) (T := TX8) (N := 35) hx hb hts iX8_ahead_X8 hown hK hP 0 rfl rfl 21 (by decide) (hts (.fieldLink RX8 54 "RiskHouseModel" "points" "[I") (by decide +kernel)) (fun _ h9 => h9) rfl dX8_ahead_60 ?_
    refine lv_iload_n hx hb dX8_ahead_63 rfl (lv_at hl 4 rfl) ?_
    obtain ⟨h_2, hok⟩ := hok
    refine va_iald (f := (S.2 19)) hx hb hK hP 14 0 rfl rfl h_2 dX8_ahead_64 ?_
    refine lv_aload_n hx hb dX8_ahead_65 rfl (lv_at hl 1 rfl) ?_
    refine va_get (D := (dC, dI)) (ci := 7) (v := .ref (a 14)) (C := RX8) (T := TX8) (N := 35) hx hb hts iX8_ahead_X8 hown hK hP 0 rfl rfl 21 (by decide) (hts (.fieldLink RX8 54 "RiskHouseModel" "points" "[I") (by decide +kernel)) (fun _ h9 => h9) rfl dX8_ahead_66 ?_
    refine lv_iload_n hx hb dX8_ahead_69 rfl (lv_at hl 2 rfl) ?_
    obtain ⟨h_3, hok⟩ := hok
    refine va_iald (f := (S.2 19)) hx hb hK hP 14 0 rfl rfl h_3 dX8_ahead_70 ?_
    refine lv_icmp_gt (tgt := 94) hx hb dX8_ahead_71 (by decide) (fun c_4 => ?_) (fun c_4 => ?_)
    · have hok := okT hok c_4
      have hZ := rsT hZ c_4
      exact w_X8_ahead_94 C0 hK hA Z k kk hk S x1 x3 x2 hok hZ _ _ hP hD hS _ (lv_sub hl [1, 2, 4] rfl)
    · have hok := okF hok c_4
      have hZ := rsF hZ c_4
      refine lv_aload_n hx hb dX8_ahead_74 rfl (lv_at hl 1 rfl) ?_
      refine va_get (D := (dC, dI)) (ci := 7) (v := .ref (a 14)) (C := RX8) (T := TX8) (N := 35) hx hb hts iX8_ahead_X8 hown hK hP 0 rfl rfl 21 (by decide) (hts (.fieldLink RX8 54 "RiskHouseModel" "points" "[I") (by decide +kernel)) (fun _ h9 => h9) rfl dX8_ahead_75 ?_
      refine lv_iload_n hx hb dX8_ahead_78 rfl (lv_at hl 4 rfl) ?_
      obtain ⟨h_5, hok⟩ := hok
      refine va_iald (f := (S.2 19)) hx hb hK hP 14 0 rfl rfl h_5 dX8_ahead_79 ?_
      refine lv_aload_n hx hb dX8_ahead_80 rfl (lv_at hl 1 rfl) ?_
      refine va_get (D := (dC, dI)) (ci := 7) (v := .ref (a 14)) (C := RX8) (T := TX8) (N := 35) hx hb hts iX8_ahead_X8 hown hK hP 0 rfl rfl 21 (by decide) (hts (.fieldLink RX8 54 "RiskHouseModel" "points" "[I") (by decide +kernel)) (fun _ h9 => h9) rfl dX8_ahead_81 ?_
      refine lv_iload_n hx hb dX8_ahead_84 rfl (lv_at hl 2 rfl) ?_
      obtain ⟨h_6, hok⟩ := hok
      refine va_iald (f := (S.2 19)) hx hb hK hP 14 0 rfl rfl h_6 dX8_ahead_85 ?_
      refine lv_icmp_ne (tgt := 98) hx hb dX8_ahead_86 (by decide) (fun c_7 => ?_) (fun c_7 => ?_)
      · have hok := okF hok c_7
        have hZ := rsF hZ c_7
        exact w_X8_ahead_98 C0 hK hA Z k kk hk S x1 x3 x2 hok hZ _ _ hP hD hS _ (lv_sub hl [1, 2, 4] rfl)
      · have hok := okT hok c_7
        have hZ := rsT hZ c_7
        refine lv_iload_n hx hb dX8_ahead_89 rfl (lv_at hl 4 rfl) ?_
        refine lv_iload_n hx hb dX8_ahead_90 rfl (lv_at hl 2 rfl) ?_
        refine lv_icmp_ge (tgt := 98) hx hb dX8_ahead_91 (by decide) (fun c_8 => ?_) (fun c_8 => ?_)
        · have hok := okT hok c_8
          have hZ := rsT hZ c_8
          exact w_X8_ahead_98 C0 hK hA Z k kk hk S x1 x3 x2 hok hZ _ _ hP hD hS _ (lv_sub hl [1, 2, 4] rfl)
        · have hok := okF hok c_8
          have hZ := rsF hZ c_8
          exact w_X8_ahead_94 C0 hK hA Z k kk hk S x1 x3 x2 hok hZ _ _ hP hD hS _ (lv_sub hl [1, 2, 4] rfl)
def rs_X8_ahead_50 (k : St → Int32 → Int32 → Int32 → Int32 × St) (S : St) (x1 : Int32) (x2 : Int32) (x3 : Int32) : Int32 × St := (rs_X8_ahead_51 k S x1 x2 x3 0)
def ok_X8_ahead_50 (kk : St → Int32 → Int32 → Int32 → Prop) (S : St) (x1 : Int32) (x2 : Int32) (x3 : Int32) : Prop := ok_X8_ahead_51 kk S x1 x2 x3 0
set_option maxHeartbeats 4000000 in
set_option maxRecDepth 100000 in
theorem w_X8_ahead_50 {p : Program} {l : Launch} {e : Env} {s : State} {m : MethodId} {args : Array Value} {below : List Frame} {meth : Method} {c : Code} {dC : Nat → ClassId} {dI : Nat → Nat → Nat} {cI cZ : ClassId} {a : Nat → Nat} {A : Nat → Prop} (C0 : Cx p s m args meth c RX8 cX8_ahead (some .int) 5 wsX8_ahead) (hK : va_K (dC, dI) vwCl (tI cI cZ) s) (hA : ∀ q, s.heap.size ≤ q → A q) (Z : Int32 × St) (k : St → Int32 → Int32 → Int32 → Int32 × St) (kk : St → Int32 → Int32 → Int32 → Prop) (hk : ∀ (S : St) (x1 : Int32) (x2 : Int32) (x3 : Int32) (hok : kk S x1 x2 x3) (hZ : k S x1 x2 x3 = Z) (H : Heap) (locs : List Loc) (hP : va_P (dC, dI) vwCl (mW cI cZ a S) H) (hD : va_D A (mW cI cZ a S)) (hS : va_S A s.heap H locs) (ls : Array Slot) (hl : lv_has ls 5 [(0, .ref (a 0)), (1, .int x1), (2, .int x2), (3, .int x3)]), W p l e rm_X8_ahead s m args below meth c H locs 0 0 (MQ below (va_Qi (fun (r : Int32) (u : St) => (r, u) = Z) (mWB dC dI cI cZ a A) A) args s 0 0 A) (F0 m 4 ls [])) (S : St) (x1 : Int32) (x2 : Int32) (x3 : Int32) (hok : ok_X8_ahead_50 kk S x1 x2 x3) (hZ : rs_X8_ahead_50 k S x1 x2 x3 = Z) (H : Heap) (locs : List Loc) (hP : va_P (dC, dI) vwCl (mW cI cZ a S) H) (hD : va_D A (mW cI cZ a S)) (hS : va_S A s.heap H locs) (ls : Array Slot) (hl : lv_has ls 5 [(0, .ref (a 0)), (1, .int x1), (2, .int x2), (3, .int x3)]) : W p l e rm_X8_ahead s m args below meth c H locs 0 0 (MQ below (va_Qi (fun (r : Int32) (u : St) => (r, u) = Z) (mWB dC dI cI cZ a A) A) args s 0 0 A) (F0 m 50 ls []) := by
  obtain ⟨hx, hb, hr, hml, hown, hts, hlocks⟩ := id C0
  rw [ok_X8_ahead_50] at hok
  rw [rs_X8_ahead_50] at hZ
  refine lv_iconst (v := 0) hx hb dX8_ahead_50 (by decide) ?_
  exact w_X8_ahead_51 C0 hK hA Z k kk hk S x1 x2 x3 0 hok hZ _ _ hP hD hS _ (lv_sub hl [0, 1, 2, 3] rfl)
def rs_X8_ahead_4 : Nat → St → Int32 → Int32 → Int32 → Int32 × St
  | 0, S, x1, x2, x3 => (0, S)
  | n + 1, S, x1, x2, x3 => (if (S.1 686) ≤ x3 then (x2, S) else (if ((S.2 18) x3.toNatClampNeg) = ((S.2 18) x1.toNatClampNeg) then (if ((S.2 22) x3.toNatClampNeg) = 0 then (if ((S.2 20) x3.toNatClampNeg) ≤ 1 then (rs_X8_ahead_50 (rs_X8_ahead_4 n) S x1 x2 x3) else (rs_X8_ahead_51 (rs_X8_ahead_4 n) S x1 x2 x3 1)) else (rs_X8_ahead_50 (rs_X8_ahead_4 n) S x1 x2 x3)) else (rs_X8_ahead_50 (rs_X8_ahead_4 n) S x1 x2 x3)))
def ok_X8_ahead_4 : Nat → St → Int32 → Int32 → Int32 → Prop
  | 0, _, _, _, _ => False
  | n + 1, S, x1, x2, x3 => (if (S.1 686) ≤ x3 then True else ((vp_in x3 40) ∧ ((vp_in x1 40) ∧ (if ((S.2 18) x3.toNatClampNeg) = ((S.2 18) x1.toNatClampNeg) then ((vp_in x3 40) ∧ (if ((S.2 22) x3.toNatClampNeg) = 0 then ((vp_in x3 40) ∧ (if ((S.2 20) x3.toNatClampNeg) ≤ 1 then ok_X8_ahead_50 (ok_X8_ahead_4 n) S x1 x2 x3 else ok_X8_ahead_51 (ok_X8_ahead_4 n) S x1 x2 x3 1)) else ok_X8_ahead_50 (ok_X8_ahead_4 n) S x1 x2 x3)) else ok_X8_ahead_50 (ok_X8_ahead_4 n) S x1 x2 x3))))
set_option maxHeartbeats 4000000 in
set_option maxRecDepth 100000 in
theorem w_X8_ahead_4 {p : Program} {l : Launch} {e : Env} {s : State} {m : MethodId} {args : Array Value} {below : List Frame} {meth : Method} {c : Code} {dC : Nat → ClassId} {dI : Nat → Nat → Nat} {cI cZ : ClassId} {a : Nat → Nat} {A : Nat → Prop} (C0 : Cx p s m args meth c RX8 cX8_ahead (some .int) 5 wsX8_ahead) (hK : va_K (dC, dI) vwCl (tI cI cZ) s) (hA : ∀ q, s.heap.size ≤ q → A q) (Z : Int32 × St) : ∀ (n : Nat) (S : St) (x1 : Int32) (x2 : Int32) (x3 : Int32) (hok : ok_X8_ahead_4 n S x1 x2 x3) (hZ : rs_X8_ahead_4 n S x1 x2 x3 = Z) (H : Heap) (locs : List Loc) (hP : va_P (dC, dI) vwCl (mW cI cZ a S) H) (hD : va_D A (mW cI cZ a S)) (hS : va_S A s.heap H locs) (ls : Array Slot) (hl : lv_has ls 5 [(0, .ref (a 0)), (1, .int x1), (2, .int x2), (3, .int x3)]), W p l e rm_X8_ahead s m args below meth c H locs 0 0 (MQ below (va_Qi (fun (r : Int32) (u : St) => (r, u) = Z) (mWB dC dI cI cZ a A) A) args s 0 0 A) (F0 m 4 ls []) := by
  obtain ⟨hx, hb, hr, hml, hown, hts, hlocks⟩ := id C0
  intro n
  induction n with
  | zero => intro S x1 x2 x3 hok; exact absurd hok (fun h => h)
  | succ n ih =>
    intro S x1 x2 x3 hok hZ H locs hP hD hS ls hl
    rw [ok_X8_ahead_4] at hok
    rw [rs_X8_ahead_4] at hZ
    refine lv_iload_n hx hb dX8_ahead_4 rfl (lv_at hl 3 rfl) ?_
    refine lv_aload_n hx hb dX8_ahead_5 rfl (lv_at hl 0 rfl) ?_
    refine va_get (D := (dC, dI)) (ci := 7) (v := .int (S.1 686)) (C := RX8) (T := TX8) (N := 35) hx hb hts iX8_ahead_X8 hown hK hP 0 rfl rfl 19 (by decide) (hts (.fieldLink RX8 142 "RiskHouseModel" "cases" "I") (by decide +kernel)) (fun _ h9 => h9) rfl dX8_ahead_6 ?_
    refine lv_icmp_ge (tgt := 107) hx hb dX8_ahead_9 (by decide) (fun c_1 => ?_) (fun c_1 => ?_)
    · have hok := okT hok c_1
      have hZ := rsT hZ c_1
      refine lv_iload_n hx hb dX8_ahead_107 rfl (lv_at hl 2 rfl) ?_
      exact W.iret (v := x2) hx hb hr (fun t ht hW => ⟨⟨x2, S, rfl, hZ, by rw [ht]; exact hP, va_K.moved hW.alike hK, hD⟩, hS.F ht⟩) hS.2.2 dX8_ahead_108 hlocks
    · have hok := okF hok c_1
      have hZ := rsF hZ c_1
      refine lv_aload_n hx hb dX8_ahead_12 rfl (lv_at hl 0 rfl) ?_
      refine va_get (D := (dC, dI)) (ci := 7) (v := .ref (a 13)) (C := RX8) (T := TX8) (N := 35) hx hb hts iX8_ahead_X8 hown hK hP 0 rfl rfl 20 (by decide) (hts (.fieldLink RX8 51 "RiskHouseModel" "office" "[I") (by decide +kernel)) (fun _ h9 => h9) rfl dX8_ahead_13 ?_
      refine lv_iload_n hx hb dX8_ahead_16 rfl (lv_at hl 3 rfl) ?_
      obtain ⟨h_2, hok⟩ := hok
      refine va_iald (f := (S.2 18)) hx hb hK hP 13 0 rfl rfl h_2 dX8_ahead_17 ?_
      refine lv_aload_n hx hb dX8_ahead_18 rfl (lv_at hl 0 rfl) ?_
      refine va_get (D := (dC, dI)) (ci := 7) (v := .ref (a 13)) (C := RX8) (T := TX8) (N := 35) hx hb hts iX8_ahead_X8 hown hK hP 0 rfl rfl 20 (by decide) (hts (.fieldLink RX8 51 "RiskHouseModel" "office" "[I") (by decide +kernel)) (fun _ h9 => h9) rfl dX8_ahead_19 ?_
      refine lv_iload_n hx hb dX8_ahead_22 rfl (lv_at hl 1 rfl) ?_
      obtain ⟨h_3, hok⟩ := hok
      refine va_iald (f := (S.2 18)) hx hb hK hP 13 0 rfl rfl h_3 dX8_ahead_23 ?_
      refine lv_icmp_ne (tgt := 50) hx hb dX8_ahead_24 (by decide) (fun c_4 => ?_) (fun c_4 => ?_)
      · have hok := okF hok c_4
        have hZ := rsF hZ c_4
        exact w_X8_ahead_50 C0 hK hA Z (rs_X8_ahead_4 n) (ok_X8_ahead_4 n) ih S x1 x2 x3 hok hZ _ _ hP hD hS _ (lv_sub hl [0, 1, 2, 3] rfl)
      · have hok := okT hok c_4
        have hZ := rsT hZ c_4
        refine lv_aload_n hx hb dX8_ahead_27 rfl (lv_at hl 0 rfl) ?_
        refine va_get (D := (dC, dI)) (ci := 7) (v := .ref (a 17)) (C := RX8) (T := TX8) (N := 35) hx hb hts iX8_ahead_X8 hown hK hP 0 rfl rfl 24 (by decide) (hts (.fieldLink RX8 63 "RiskHouseModel" "decided" "[Z") (by decide +kernel)) (fun _ h9 => h9) rfl dX8_ahead_28 ?_
        refine lv_iload_n hx hb dX8_ahead_31 rfl (lv_at hl 3 rfl) ?_
        obtain ⟨h_5, hok⟩ := hok
        refine va_zald (f := (S.2 22)) hx hb hK hP 17 1 rfl rfl h_5 dX8_ahead_32 ?_
        refine lv_if_ne (tgt := 50) hx hb dX8_ahead_33 (by decide) (fun c_6 => ?_) (fun c_6 => ?_)
        · have hok := okF hok c_6
          have hZ := rsF hZ c_6
          exact w_X8_ahead_50 C0 hK hA Z (rs_X8_ahead_4 n) (ok_X8_ahead_4 n) ih S x1 x2 x3 hok hZ _ _ hP hD hS _ (lv_sub hl [0, 1, 2, 3] rfl)
        · have hok := okT hok c_6
          have hZ := rsT hZ c_6
          refine lv_aload_n hx hb dX8_ahead_36 rfl (lv_at hl 0 rfl) ?_
          refine va_get (D := (dC, dI)) (ci := 7) (v := .ref (a 15)) (C := RX8) (T := TX8) (N := 35) hx hb hts iX8_ahead_X8 hown hK hP 0 rfl rfl 22 (by decide) (hts (.fieldLink RX8 57 "RiskHouseModel" "path" "[I") (by decide +kernel)) (fun _ h9 => h9) rfl dX8_ahead_37 ?_
          refine lv_iload_n hx hb dX8_ahead_40 rfl (lv_at hl 3 rfl) ?_
          obtain ⟨h_7, hok⟩ := hok
          refine va_iald (f := (S.2 20)) hx hb hK hP 15 0 rfl rfl h_7 dX8_ahead_41 ?_
          refine lv_iconst (v := 1) hx hb dX8_ahead_42 (by decide) ?_
          refine lv_icmp_le (tgt := 50) hx hb dX8_ahead_43 (by decide) (fun c_8 => ?_) (fun c_8 => ?_)
          · have hok := okT hok c_8
            have hZ := rsT hZ c_8
            exact w_X8_ahead_50 C0 hK hA Z (rs_X8_ahead_4 n) (ok_X8_ahead_4 n) ih S x1 x2 x3 hok hZ _ _ hP hD hS _ (lv_sub hl [0, 1, 2, 3] rfl)
          · have hok := okF hok c_8
            have hZ := rsF hZ c_8
            refine lv_iconst (v := 1) hx hb dX8_ahead_46 (by decide) ?_
            refine lv_goto (tgt := 51) hx hb dX8_ahead_47 (by decide) ?_
            exact w_X8_ahead_51 C0 hK hA Z (rs_X8_ahead_4 n) (ok_X8_ahead_4 n) ih S x1 x2 x3 1 hok hZ _ _ hP hD hS _ (lv_sub hl [0, 1, 2, 3] rfl)
def rs_X8_ahead (S : St) (x1 : Int32) : Int32 × St := (rs_X8_ahead_4 100 S x1 0 0)
def ok_X8_ahead (S : St) (x1 : Int32) : Prop := ok_X8_ahead_4 100 S x1 0 0
set_option maxHeartbeats 4000000 in
set_option maxRecDepth 100000 in
theorem w_X8_ahead {p : Program} {l : Launch} {e : Env} {s : State} {m : MethodId} {args : Array Value} {below : List Frame} {meth : Method} {c : Code} {dC : Nat → ClassId} {dI : Nat → Nat → Nat} {cI cZ : ClassId} {a : Nat → Nat} {A : Nat → Prop} (C0 : Cx p s m args meth c RX8 cX8_ahead (some .int) 5 wsX8_ahead) (hK : va_K (dC, dI) vwCl (tI cI cZ) s) (hA : ∀ q, s.heap.size ≤ q → A q) (Z : Int32 × St) (S : St) (x1 : Int32) (hok : ok_X8_ahead S x1) (hZ : rs_X8_ahead S x1 = Z) (H : Heap) (locs : List Loc) (hP : va_P (dC, dI) vwCl (mW cI cZ a S) H) (hD : va_D A (mW cI cZ a S)) (hS : va_S A s.heap H locs) (ls : Array Slot) (hl : lv_has ls 5 [(0, .ref (a 0)), (1, .int x1)]) : W p l e rm_X8_ahead s m args below meth c H locs 0 0 (MQ below (va_Qi (fun (r : Int32) (u : St) => (r, u) = Z) (mWB dC dI cI cZ a A) A) args s 0 0 A) (F0 m 0 ls []) := by
  obtain ⟨hx, hb, hr, hml, hown, hts, hlocks⟩ := id C0
  rw [ok_X8_ahead] at hok
  rw [rs_X8_ahead] at hZ
  refine lv_iconst (v := 0) hx hb dX8_ahead_0 (by decide) ?_
  refine lv_istore_n (lv' := [(2, .int 0), (0, .ref (a 0)), (1, .int x1)]) hx hb dX8_ahead_1 rfl hl (by decide) rfl (fun ls hl => ?_)
  refine lv_iconst (v := 0) hx hb dX8_ahead_2 (by decide) ?_
  refine lv_istore_n (lv' := [(3, .int 0), (2, .int 0), (0, .ref (a 0)), (1, .int x1)]) hx hb dX8_ahead_3 rfl hl (by decide) rfl (fun ls hl => ?_)
  exact w_X8_ahead_4 C0 hK hA Z 100 S x1 0 0 hok hZ _ _ hP hD hS _ (lv_sub hl [2, 3, 1, 0] rfl)
set_option maxHeartbeats 4000000 in
set_option maxRecDepth 100000 in
theorem c_X8_ahead (l : Launch) (dC : Nat → ClassId) (dI : Nat → Nat → Nat) (cI cZ : ClassId) (a : Nat → Nat) (sz : Nat) (S : St) (x1 : Int32) (hok : ok_X8_ahead S x1) : Met l yX8_ahead wsX8_ahead rm_X8_ahead (va_Pc [.ref (a 0), .int x1] (mWP dC dI cI cZ a sz S)) (va_Qi (fun (r : Int32) (u : St) => (r, u) = rs_X8_ahead S x1) (mWB dC dI cI cZ a (va_A (mW cI cZ a S) sz)) (va_A (mW cI cZ a S) sz)) 0 0 (va_A (mW cI cZ a S) sz) := by
  refine Met.ofW (cc := cX8_ahead) (maxL := 5) (ret := (some .int)) (by decide) rfl ?_
  intro p e s m args below meth c s₁ B hml hv
  obtain ⟨rfl, hsz, hP, hK, hD0⟩ := hv
  subst hsz
  have hD := hD0.self (sz := s.heap.size)
  have hl := lv_entry ([.ref (a 0), .int x1]) (n := 5) (Nat.le_of_ble_eq_true rfl)
  rw [lg_entry_eq]
  generalize (lg_sl ([.ref (a 0), .int x1]) ++ List.replicate (5 - (lg_sl ([.ref (a 0), .int x1])).length) Slot.unset).toArray = ls at hl ⊢
  have hl : lv_has ls 5 [(0, .ref (a 0)), (1, .int x1)] := hl
  exact w_X8_ahead ⟨B.exec, B.bytes, B.returns, hml, findClass_of_methodNamed B.named, atoms_spec (ws := wsX8_ahead) B.pre, B.notSynchronized⟩ hK (fun q h => Or.inr h) _ S x1 hok rfl _ _ hP hD va_S.rf ls hl
abbrev rm_X8_decide : Room := { frames := 1, cells := 0, slots := 0, locals := 24 }
theorem iX8_decide_X8 : ∀ w ∈ wsX80, w ∈ wsX8_decide := by decide +kernel
def rs_X8_decide_12 (S : St) (z0 : Int32) : Int32 × St := (z0, S)
def ok_X8_decide_12 (S : St) (z0 : Int32) : Prop := True
set_option maxHeartbeats 4000000 in
set_option maxRecDepth 100000 in
theorem w_X8_decide_12 {p : Program} {l : Launch} {e : Env} {s : State} {m : MethodId} {args : Array Value} {below : List Frame} {meth : Method} {c : Code} {dC : Nat → ClassId} {dI : Nat → Nat → Nat} {cI cZ : ClassId} {a : Nat → Nat} {A : Nat → Prop} (C0 : Cx p s m args meth c RX8 cX8_decide (some .int) 6 wsX8_decide) (hK : va_K (dC, dI) vwCl (tI cI cZ) s) (hA : ∀ q, s.heap.size ≤ q → A q) (Z : Int32 × St) (S : St) (z0 : Int32) (hok : ok_X8_decide_12 S z0) (hZ : rs_X8_decide_12 S z0 = Z) (H : Heap) (locs : List Loc) (hP : va_P (dC, dI) vwCl (mW cI cZ a S) H) (hD : va_D A (mW cI cZ a S)) (hS : va_S A s.heap H locs) (ls : Array Slot) (hl : lv_has ls 6 []) : W p l e rm_X8_decide s m args below meth c H locs 0 0 (MQ below (va_Qi (fun (r : Int32) (u : St) => (r, u) = Z) (mWB dC dI cI cZ a A) A) args s 0 0 A) (F0 m 12 ls [.int z0]) := by
  obtain ⟨hx, hb, hr, hml, hown, hts, hlocks⟩ := id C0
  rw [ok_X8_decide_12] at hok
  rw [rs_X8_decide_12] at hZ
  exact W.iret (v := z0) hx hb hr (fun t ht hW => ⟨⟨z0, S, rfl, hZ, by rw [ht]; exact hP, va_K.moved hW.alike hK, hD⟩, hS.F ht⟩) hS.2.2 dX8_decide_12 hlocks
def rs_X8_decide_88 (k : St → Int32 → Int64 → Int32 → Int32 × St) (S : St) (x1 : Int32) (x4 : Int32) (z0 : Int64) (z1 : Int64) : Int32 × St := (k S x1 (z0 ||| z1) (x4 + 1))
def ok_X8_decide_88 (kk : St → Int32 → Int64 → Int32 → Prop) (S : St) (x1 : Int32) (x4 : Int32) (z0 : Int64) (z1 : Int64) : Prop := kk S x1 (z0 ||| z1) (x4 + 1)
set_option maxHeartbeats 4000000 in
set_option maxRecDepth 100000 in
theorem w_X8_decide_88 {p : Program} {l : Launch} {e : Env} {s : State} {m : MethodId} {args : Array Value} {below : List Frame} {meth : Method} {c : Code} {dC : Nat → ClassId} {dI : Nat → Nat → Nat} {cI cZ : ClassId} {a : Nat → Nat} {A : Nat → Prop} (C0 : Cx p s m args meth c RX8 cX8_decide (some .int) 6 wsX8_decide) (hK : va_K (dC, dI) vwCl (tI cI cZ) s) (hA : ∀ q, s.heap.size ≤ q → A q) (Z : Int32 × St) (k : St → Int32 → Int64 → Int32 → Int32 × St) (kk : St → Int32 → Int64 → Int32 → Prop) (hk : ∀ (S : St) (x1 : Int32) (x2 : Int64) (x4 : Int32) (hok : kk S x1 x2 x4) (hZ : k S x1 x2 x4 = Z) (H : Heap) (locs : List Loc) (hP : va_P (dC, dI) vwCl (mW cI cZ a S) H) (hD : va_D A (mW cI cZ a S)) (hS : va_S A s.heap H locs) (ls : Array Slot) (hl : lv_has ls 6 [(0, .ref (a 0)), (1, .int x1), (2, .long x2), (4, .int x4)]), W p l e rm_X8_decide s m args below meth c H locs 0 0 (MQ below (va_Qi (fun (r : Int32) (u : St) => (r, u) = Z) (mWB dC dI cI cZ a A) A) args s 0 0 A) (F0 m 23 ls [])) (S : St) (x1 : Int32) (x4 : Int32) (z0 : Int64) (z1 : Int64) (hok : ok_X8_decide_88 kk S x1 x4 z0 z1) (hZ : rs_X8_decide_88 k S x1 x4 z0 z1 = Z) (H : Heap) (locs : List Loc) (hP : va_P (dC, dI) vwCl (mW cI cZ a S) H) (hD : va_D A (mW cI cZ a S)) (hS : va_S A s.heap H locs) (ls : Array Slot) (hl : lv_has ls 6 [(0, .ref (a 0)), (1, .int x1), (4, .int x4)]) : W p l e rm_X8_decide s m args below meth c H locs 0 0 (MQ below (va_Qi (fun (r : Int32) (u : St) => (r, u) = Z) (mWB dC dI cI cZ a A) A) args s 0 0 A) (F0 m 88 ls [.long z1, .long z0]) := by
  obtain ⟨hx, hb, hr, hml, hown, hts, hlocks⟩ := id C0
  rw [ok_X8_decide_88] at hok
  rw [rs_X8_decide_88] at hZ
  refine lv_lor hx hb dX8_decide_88 ?_
  refine lv_lstore_n (lv' := [(2, .long (z0 ||| z1)), (0, .ref (a 0)), (1, .int x1), (4, .int x4)]) hx hb dX8_decide_89 rfl hl (by decide) rfl (fun ls hl => ?_)
  refine lv_iinc (v := (x4 + 1)) (lv' := [(4, .int (x4 + 1)), (2, .long (z0 ||| z1)), (0, .ref (a 0)), (1, .int x1)]) hx hb dX8_decide_90 hl (k := 3) rfl rfl (by decide) rfl (fun ls hl => ?_)
  refine lv_goto (tgt := 23) hx hb dX8_decide_93 (by decide) ?_
  exact hk S x1 (z0 ||| z1) (x4 + 1) hok hZ _ _ hP hD hS _ (lv_sub hl [2, 3, 1, 0] rfl)
def rs_X8_decide_80 (k : St → Int32 → Int64 → Int32 → Int32 × St) (S : St) (x1 : Int32) (x4 : Int32) (z0 : Int64) : Int32 × St := (rs_X8_decide_88 k S x1 x4 z0 (1 <<< (x4.toInt64 &&& 63)))
def ok_X8_decide_80 (kk : St → Int32 → Int64 → Int32 → Prop) (S : St) (x1 : Int32) (x4 : Int32) (z0 : Int64) : Prop := ok_X8_decide_88 kk S x1 x4 z0 (1 <<< (x4.toInt64 &&& 63))
set_option maxHeartbeats 4000000 in
set_option maxRecDepth 100000 in
theorem w_X8_decide_80 {p : Program} {l : Launch} {e : Env} {s : State} {m : MethodId} {args : Array Value} {below : List Frame} {meth : Method} {c : Code} {dC : Nat → ClassId} {dI : Nat → Nat → Nat} {cI cZ : ClassId} {a : Nat → Nat} {A : Nat → Prop} (C0 : Cx p s m args meth c RX8 cX8_decide (some .int) 6 wsX8_decide) (hK : va_K (dC, dI) vwCl (tI cI cZ) s) (hA : ∀ q, s.heap.size ≤ q → A q) (Z : Int32 × St) (k : St → Int32 → Int64 → Int32 → Int32 × St) (kk : St → Int32 → Int64 → Int32 → Prop) (hk : ∀ (S : St) (x1 : Int32) (x2 : Int64) (x4 : Int32) (hok : kk S x1 x2 x4) (hZ : k S x1 x2 x4 = Z) (H : Heap) (locs : List Loc) (hP : va_P (dC, dI) vwCl (mW cI cZ a S) H) (hD : va_D A (mW cI cZ a S)) (hS : va_S A s.heap H locs) (ls : Array Slot) (hl : lv_has ls 6 [(0, .ref (a 0)), (1, .int x1), (2, .long x2), (4, .int x4)]), W p l e rm_X8_decide s m args below meth c H locs 0 0 (MQ below (va_Qi (fun (r : Int32) (u : St) => (r, u) = Z) (mWB dC dI cI cZ a A) A) args s 0 0 A) (F0 m 23 ls [])) (S : St) (x1 : Int32) (x4 : Int32) (z0 : Int64) (hok : ok_X8_decide_80 kk S x1 x4 z0) (hZ : rs_X8_decide_80 k S x1 x4 z0 = Z) (H : Heap) (locs : List Loc) (hP : va_P (dC, dI) vwCl (mW cI cZ a S) H) (hD : va_D A (mW cI cZ a S)) (hS : va_S A s.heap H locs) (ls : Array Slot) (hl : lv_has ls 6 [(0, .ref (a 0)), (1, .int x1), (4, .int x4)]) : W p l e rm_X8_decide s m args below meth c H locs 0 0 (MQ below (va_Qi (fun (r : Int32) (u : St) => (r, u) = Z) (mWB dC dI cI cZ a A) A) args s 0 0 A) (F0 m 80 ls [.long z0]) := by
  obtain ⟨hx, hb, hr, hml, hown, hts, hlocks⟩ := id C0
  rw [ok_X8_decide_80] at hok
  rw [rs_X8_decide_80] at hZ
  refine lv_lconst (v := 1) hx hb dX8_decide_80 (by decide) ?_
  refine lv_iload hx hb dX8_decide_81 (lv_at hl 2 rfl) ?_
  refine lv_lshl hx hb dX8_decide_83 rfl ?_
  refine lv_goto (tgt := 88) hx hb dX8_decide_84 (by decide) ?_
  exact w_X8_decide_88 C0 hK hA Z k kk hk S x1 x4 z0 (1 <<< (x4.toInt64 &&& 63)) hok hZ _ _ hP hD hS _ (lv_sub hl [0, 1, 2] rfl)
def rs_X8_decide_87 (k : St → Int32 → Int64 → Int32 → Int32 × St) (S : St) (x1 : Int32) (x4 : Int32) (z0 : Int64) : Int32 × St := (rs_X8_decide_88 k S x1 x4 z0 0)
def ok_X8_decide_87 (kk : St → Int32 → Int64 → Int32 → Prop) (S : St) (x1 : Int32) (x4 : Int32) (z0 : Int64) : Prop := ok_X8_decide_88 kk S x1 x4 z0 0
set_option maxHeartbeats 4000000 in
set_option maxRecDepth 100000 in
theorem w_X8_decide_87 {p : Program} {l : Launch} {e : Env} {s : State} {m : MethodId} {args : Array Value} {below : List Frame} {meth : Method} {c : Code} {dC : Nat → ClassId} {dI : Nat → Nat → Nat} {cI cZ : ClassId} {a : Nat → Nat} {A : Nat → Prop} (C0 : Cx p s m args meth c RX8 cX8_decide (some .int) 6 wsX8_decide) (hK : va_K (dC, dI) vwCl (tI cI cZ) s) (hA : ∀ q, s.heap.size ≤ q → A q) (Z : Int32 × St) (k : St → Int32 → Int64 → Int32 → Int32 × St) (kk : St → Int32 → Int64 → Int32 → Prop) (hk : ∀ (S : St) (x1 : Int32) (x2 : Int64) (x4 : Int32) (hok : kk S x1 x2 x4) (hZ : k S x1 x2 x4 = Z) (H : Heap) (locs : List Loc) (hP : va_P (dC, dI) vwCl (mW cI cZ a S) H) (hD : va_D A (mW cI cZ a S)) (hS : va_S A s.heap H locs) (ls : Array Slot) (hl : lv_has ls 6 [(0, .ref (a 0)), (1, .int x1), (2, .long x2), (4, .int x4)]), W p l e rm_X8_decide s m args below meth c H locs 0 0 (MQ below (va_Qi (fun (r : Int32) (u : St) => (r, u) = Z) (mWB dC dI cI cZ a A) A) args s 0 0 A) (F0 m 23 ls [])) (S : St) (x1 : Int32) (x4 : Int32) (z0 : Int64) (hok : ok_X8_decide_87 kk S x1 x4 z0) (hZ : rs_X8_decide_87 k S x1 x4 z0 = Z) (H : Heap) (locs : List Loc) (hP : va_P (dC, dI) vwCl (mW cI cZ a S) H) (hD : va_D A (mW cI cZ a S)) (hS : va_S A s.heap H locs) (ls : Array Slot) (hl : lv_has ls 6 [(0, .ref (a 0)), (1, .int x1), (4, .int x4)]) : W p l e rm_X8_decide s m args below meth c H locs 0 0 (MQ below (va_Qi (fun (r : Int32) (u : St) => (r, u) = Z) (mWB dC dI cI cZ a A) A) args s 0 0 A) (F0 m 87 ls [.long z0]) := by
  obtain ⟨hx, hb, hr, hml, hown, hts, hlocks⟩ := id C0
  rw [ok_X8_decide_87] at hok
  rw [rs_X8_decide_87] at hZ
  refine lv_lconst (v := 0) hx hb dX8_decide_87 (by decide) ?_
  exact w_X8_decide_88 C0 hK hA Z k kk hk S x1 x4 z0 0 hok hZ _ _ hP hD hS _ (lv_sub hl [0, 1, 2] rfl)
def rs_X8_decide_71 (k : St → Int32 → Int64 → Int32 → Int32 × St) (S : St) (x1 : Int32) (x4 : Int32) (z0 : Int64) (z1 : Int32) : Int32 × St := (if ((S.2 2) x1.toNatClampNeg) ≤ z1 then (rs_X8_decide_87 k S x1 x4 z0) else (rs_X8_decide_80 k S x1 x4 z0))
def ok_X8_decide_71 (kk : St → Int32 → Int64 → Int32 → Prop) (S : St) (x1 : Int32) (x4 : Int32) (z0 : Int64) (z1 : Int32) : Prop := ((vp_in x1 4) ∧ (if ((S.2 2) x1.toNatClampNeg) ≤ z1 then ok_X8_decide_87 kk S x1 x4 z0 else ok_X8_decide_80 kk S x1 x4 z0))
set_option maxHeartbeats 4000000 in
set_option maxRecDepth 100000 in
theorem w_X8_decide_71 {p : Program} {l : Launch} {e : Env} {s : State} {m : MethodId} {args : Array Value} {below : List Frame} {meth : Method} {c : Code} {dC : Nat → ClassId} {dI : Nat → Nat → Nat} {cI cZ : ClassId} {a : Nat → Nat} {A : Nat → Prop} (C0 : Cx p s m args meth c RX8 cX8_decide (some .int) 6 wsX8_decide) (hK : va_K (dC, dI) vwCl (tI cI cZ) s) (hA : ∀ q, s.heap.size ≤ q → A q) (Z : Int32 × St) (k : St → Int32 → Int64 → Int32 → Int32 × St) (kk : St → Int32 → Int64 → Int32 → Prop) (hk : ∀ (S : St) (x1 : Int32) (x2 : Int64) (x4 : Int32) (hok : kk S x1 x2 x4) (hZ : k S x1 x2 x4 = Z) (H : Heap) (locs : List Loc) (hP : va_P (dC, dI) vwCl (mW cI cZ a S) H) (hD : va_D A (mW cI cZ a S)) (hS : va_S A s.heap H locs) (ls : Array Slot) (hl : lv_has ls 6 [(0, .ref (a 0)), (1, .int x1), (2, .long x2), (4, .int x4)]), W p l e rm_X8_decide s m args below meth c H locs 0 0 (MQ below (va_Qi (fun (r : Int32) (u : St) => (r, u) = Z) (mWB dC dI cI cZ a A) A) args s 0 0 A) (F0 m 23 ls [])) (S : St) (x1 : Int32) (x4 : Int32) (z0 : Int64) (z1 : Int32) (hok : ok_X8_decide_71 kk S x1 x4 z0 z1) (hZ : rs_X8_decide_71 k S x1 x4 z0 z1 = Z) (H : Heap) (locs : List Loc) (hP : va_P (dC, dI) vwCl (mW cI cZ a S) H) (hD : va_D A (mW cI cZ a S)) (hS : va_S A s.heap H locs) (ls : Array Slot) (hl : lv_has ls 6 [(0, .ref (a 0)), (1, .int x1), (4, .int x4)]) : W p l e rm_X8_decide s m args below meth c H locs 0 0 (MQ below (va_Qi (fun (r : Int32) (u : St) => (r, u) = Z) (mWB dC dI cI cZ a A) A) args s 0 0 A) (F0 m 71 ls [.int z1, .long z0]) := by
  obtain ⟨hx, hb, hr, hml, hown, hts, hlocks⟩ := id C0
  rw [ok_X8_decide_71] at hok
  rw [rs_X8_decide_71] at hZ
  refine lv_aload_n hx hb dX8_decide_71 rfl (lv_at hl 0 rfl) ?_
  refine va_get (D := (dC, dI)) (ci := 7) (v := .ref (a 12)) (C := RX8) (T := TX8) (N := 35) hx hb hts iX8_decide_X8 hown hK hP 0 rfl rfl 18 (by decide) (hts (.fieldLink RX8 48 "RiskHouseModel" "caps" "[I") (by decide +kernel)) (fun _ h9 => h9) rfl dX8_decide_72 ?_
  refine lv_iload_n hx hb dX8_decide_75 rfl (lv_at hl 1 rfl) ?_
  obtain ⟨h_1, hok⟩ := hok
  refine va_iald (f := (S.2 2)) hx hb hK hP 12 0 rfl rfl h_1 dX8_decide_76 ?_
  refine lv_icmp_ge (tgt := 87) hx hb dX8_decide_77 (by decide) (fun c_2 => ?_) (fun c_2 => ?_)
  · have hok := okT hok c_2
    have hZ := rsT hZ c_2
    exact w_X8_decide_87 C0 hK hA Z k kk hk S x1 x4 z0 hok hZ _ _ hP hD hS _ (lv_sub hl [0, 1, 2] rfl)
  · have hok := okF hok c_2
    have hZ := rsF hZ c_2
    exact w_X8_decide_80 C0 hK hA Z k kk hk S x1 x4 z0 hok hZ _ _ hP hD hS _ (lv_sub hl [0, 1, 2] rfl)
def rs_X8_decide_172 (k : St → Int32 → Int64 → Int32 → Int32 → Int32 × St) (S : St) (x1 : Int32) (x2 : Int64) (x4 : Int32) (x5 : Int32) : Int32 × St := (k S x1 x2 x4 (x5 + 1))
def ok_X8_decide_172 (kk : St → Int32 → Int64 → Int32 → Int32 → Prop) (S : St) (x1 : Int32) (x2 : Int64) (x4 : Int32) (x5 : Int32) : Prop := kk S x1 x2 x4 (x5 + 1)
set_option maxHeartbeats 4000000 in
set_option maxRecDepth 100000 in
theorem w_X8_decide_172 {p : Program} {l : Launch} {e : Env} {s : State} {m : MethodId} {args : Array Value} {below : List Frame} {meth : Method} {c : Code} {dC : Nat → ClassId} {dI : Nat → Nat → Nat} {cI cZ : ClassId} {a : Nat → Nat} {A : Nat → Prop} (C0 : Cx p s m args meth c RX8 cX8_decide (some .int) 6 wsX8_decide) (hK : va_K (dC, dI) vwCl (tI cI cZ) s) (hA : ∀ q, s.heap.size ≤ q → A q) (Z : Int32 × St) (k : St → Int32 → Int64 → Int32 → Int32 → Int32 × St) (kk : St → Int32 → Int64 → Int32 → Int32 → Prop) (hk : ∀ (S : St) (x1 : Int32) (x2 : Int64) (x4 : Int32) (x5 : Int32) (hok : kk S x1 x2 x4 x5) (hZ : k S x1 x2 x4 x5 = Z) (H : Heap) (locs : List Loc) (hP : va_P (dC, dI) vwCl (mW cI cZ a S) H) (hD : va_D A (mW cI cZ a S)) (hS : va_S A s.heap H locs) (ls : Array Slot) (hl : lv_has ls 6 [(0, .ref (a 0)), (1, .int x1), (2, .long x2), (4, .int x4), (5, .int x5)]), W p l e rm_X8_decide s m args below meth c H locs 0 0 (MQ below (va_Qi (fun (r : Int32) (u : St) => (r, u) = Z) (mWB dC dI cI cZ a A) A) args s 0 0 A) (F0 m 102 ls [])) (S : St) (x1 : Int32) (x2 : Int64) (x4 : Int32) (x5 : Int32) (hok : ok_X8_decide_172 kk S x1 x2 x4 x5) (hZ : rs_X8_decide_172 k S x1 x2 x4 x5 = Z) (H : Heap) (locs : List Loc) (hP : va_P (dC, dI) vwCl (mW cI cZ a S) H) (hD : va_D A (mW cI cZ a S)) (hS : va_S A s.heap H locs) (ls : Array Slot) (hl : lv_has ls 6 [(0, .ref (a 0)), (1, .int x1), (2, .long x2), (4, .int x4), (5, .int x5)]) : W p l e rm_X8_decide s m args below meth c H locs 0 0 (MQ below (va_Qi (fun (r : Int32) (u : St) => (r, u) = Z) (mWB dC dI cI cZ a A) A) args s 0 0 A) (F0 m 172 ls []) := by
  obtain ⟨hx, hb, hr, hml, hown, hts, hlocks⟩ := id C0
  rw [ok_X8_decide_172] at hok
  rw [rs_X8_decide_172] at hZ
  refine lv_iinc (v := (x5 + 1)) (lv' := [(5, .int (x5 + 1)), (0, .ref (a 0)), (1, .int x1), (2, .long x2), (4, .int x4)]) hx hb dX8_decide_172 hl (k := 4) rfl rfl (by decide) rfl (fun ls hl => ?_)
  refine lv_goto (tgt := 102) hx hb dX8_decide_175 (by decide) ?_
  exact hk S x1 x2 x4 (x5 + 1) hok hZ _ _ hP hD hS _ (lv_sub hl [1, 2, 3, 4, 0] rfl)
def rs_X8_decide_161 (k : St → Int32 → Int64 → Int32 → Int32 → Int32 × St) (S : St) (x1 : Int32) (x2 : Int64) (x4 : Int32) (x5 : Int32) : Int32 × St := (rs_X8_decide_172 k (sA S 22 x5.toNatClampNeg (vp_nar .boolean 1)) x1 x2 (x4 + 1) x5)
def ok_X8_decide_161 (kk : St → Int32 → Int64 → Int32 → Int32 → Prop) (S : St) (x1 : Int32) (x2 : Int64) (x4 : Int32) (x5 : Int32) : Prop := ((vp_in x5 40) ∧ ok_X8_decide_172 kk (sA S 22 x5.toNatClampNeg (vp_nar .boolean 1)) x1 x2 (x4 + 1) x5)
set_option maxHeartbeats 4000000 in
set_option maxRecDepth 100000 in
theorem w_X8_decide_161 {p : Program} {l : Launch} {e : Env} {s : State} {m : MethodId} {args : Array Value} {below : List Frame} {meth : Method} {c : Code} {dC : Nat → ClassId} {dI : Nat → Nat → Nat} {cI cZ : ClassId} {a : Nat → Nat} {A : Nat → Prop} (C0 : Cx p s m args meth c RX8 cX8_decide (some .int) 6 wsX8_decide) (hK : va_K (dC, dI) vwCl (tI cI cZ) s) (hA : ∀ q, s.heap.size ≤ q → A q) (Z : Int32 × St) (k : St → Int32 → Int64 → Int32 → Int32 → Int32 × St) (kk : St → Int32 → Int64 → Int32 → Int32 → Prop) (hk : ∀ (S : St) (x1 : Int32) (x2 : Int64) (x4 : Int32) (x5 : Int32) (hok : kk S x1 x2 x4 x5) (hZ : k S x1 x2 x4 x5 = Z) (H : Heap) (locs : List Loc) (hP : va_P (dC, dI) vwCl (mW cI cZ a S) H) (hD : va_D A (mW cI cZ a S)) (hS : va_S A s.heap H locs) (ls : Array Slot) (hl : lv_has ls 6 [(0, .ref (a 0)), (1, .int x1), (2, .long x2), (4, .int x4), (5, .int x5)]), W p l e rm_X8_decide s m args below meth c H locs 0 0 (MQ below (va_Qi (fun (r : Int32) (u : St) => (r, u) = Z) (mWB dC dI cI cZ a A) A) args s 0 0 A) (F0 m 102 ls [])) (S : St) (x1 : Int32) (x2 : Int64) (x4 : Int32) (x5 : Int32) (hok : ok_X8_decide_161 kk S x1 x2 x4 x5) (hZ : rs_X8_decide_161 k S x1 x2 x4 x5 = Z) (H : Heap) (locs : List Loc) (hP : va_P (dC, dI) vwCl (mW cI cZ a S) H) (hD : va_D A (mW cI cZ a S)) (hS : va_S A s.heap H locs) (ls : Array Slot) (hl : lv_has ls 6 [(0, .ref (a 0)), (1, .int x1), (2, .long x2), (4, .int x4), (5, .int x5)]) : W p l e rm_X8_decide s m args below meth c H locs 0 0 (MQ below (va_Qi (fun (r : Int32) (u : St) => (r, u) = Z) (mWB dC dI cI cZ a A) A) args s 0 0 A) (F0 m 161 ls []) := by
  obtain ⟨hx, hb, hr, hml, hown, hts, hlocks⟩ := id C0
  rw [ok_X8_decide_161] at hok
  rw [rs_X8_decide_161] at hZ
  refine lv_aload_n hx hb dX8_decide_161 rfl (lv_at hl 0 rfl) ?_
  refine va_get (D := (dC, dI)) (ci := 7) (v := .ref (a 17)) (C := RX8) (T := TX8) (N := 35) hx hb hts iX8_decide_X8 hown hK hP 0 rfl rfl 24 (by decide) (hts (.fieldLink RX8 63 "RiskHouseModel" "decided" "[Z") (by decide +kernel)) (fun _ h9 => h9) rfl dX8_decide_162 ?_
  refine lv_iload hx hb dX8_decide_165 (lv_at hl 4 rfl) ?_
  refine lv_iconst (v := 1) hx hb dX8_decide_167 (by decide) ?_
  obtain ⟨h_1, hok⟩ := hok
  refine va_zast hx hb hK hP hD hS 17 1 rfl rfl h_1 dX8_decide_168 (fun H locs hP hD hS => ?_)
  have hP : va_P (dC, dI) vwCl (mW cI cZ a (sA S 22 x5.toNatClampNeg (vp_nar .boolean 1))) H := hP
  have hD : va_D A (mW cI cZ a (sA S 22 x5.toNatClampNeg (vp_nar .boolean 1))) := hD
  refine lv_iinc (v := (x4 + 1)) (lv' := [(4, .int (x4 + 1)), (0, .ref (a 0)), (1, .int x1), (2, .long x2), (5, .int x5)]) hx hb dX8_decide_169 hl (k := 3) rfl rfl (by decide) rfl (fun ls hl => ?_)
  exact w_X8_decide_172 C0 hK hA Z k kk hk (sA S 22 x5.toNatClampNeg (vp_nar .boolean 1)) x1 x2 (x4 + 1) x5 hok hZ _ _ hP hD hS _ (lv_sub hl [1, 2, 3, 0, 4] rfl)
def rs_X8_decide_160 (k : St → Int32 → Int64 → Int32 → Int32 → Int32 × St) (S : St) (x1 : Int32) (x2 : Int64) (x4 : Int32) (x5 : Int32) (z1 : Int32) (z2 : Int32) : Int32 × St := (rs_X8_decide_161 k (sA S 20 z1.toNatClampNeg z2) x1 x2 x4 x5)
def ok_X8_decide_160 (kk : St → Int32 → Int64 → Int32 → Int32 → Prop) (S : St) (x1 : Int32) (x2 : Int64) (x4 : Int32) (x5 : Int32) (z1 : Int32) (z2 : Int32) : Prop := ((vp_in z1 40) ∧ ok_X8_decide_161 kk (sA S 20 z1.toNatClampNeg z2) x1 x2 x4 x5)
set_option maxHeartbeats 4000000 in
set_option maxRecDepth 100000 in
theorem w_X8_decide_160 {p : Program} {l : Launch} {e : Env} {s : State} {m : MethodId} {args : Array Value} {below : List Frame} {meth : Method} {c : Code} {dC : Nat → ClassId} {dI : Nat → Nat → Nat} {cI cZ : ClassId} {a : Nat → Nat} {A : Nat → Prop} (C0 : Cx p s m args meth c RX8 cX8_decide (some .int) 6 wsX8_decide) (hK : va_K (dC, dI) vwCl (tI cI cZ) s) (hA : ∀ q, s.heap.size ≤ q → A q) (Z : Int32 × St) (k : St → Int32 → Int64 → Int32 → Int32 → Int32 × St) (kk : St → Int32 → Int64 → Int32 → Int32 → Prop) (hk : ∀ (S : St) (x1 : Int32) (x2 : Int64) (x4 : Int32) (x5 : Int32) (hok : kk S x1 x2 x4 x5) (hZ : k S x1 x2 x4 x5 = Z) (H : Heap) (locs : List Loc) (hP : va_P (dC, dI) vwCl (mW cI cZ a S) H) (hD : va_D A (mW cI cZ a S)) (hS : va_S A s.heap H locs) (ls : Array Slot) (hl : lv_has ls 6 [(0, .ref (a 0)), (1, .int x1), (2, .long x2), (4, .int x4), (5, .int x5)]), W p l e rm_X8_decide s m args below meth c H locs 0 0 (MQ below (va_Qi (fun (r : Int32) (u : St) => (r, u) = Z) (mWB dC dI cI cZ a A) A) args s 0 0 A) (F0 m 102 ls [])) (S : St) (x1 : Int32) (x2 : Int64) (x4 : Int32) (x5 : Int32) (z1 : Int32) (z2 : Int32) (hok : ok_X8_decide_160 kk S x1 x2 x4 x5 z1 z2) (hZ : rs_X8_decide_160 k S x1 x2 x4 x5 z1 z2 = Z) (H : Heap) (locs : List Loc) (hP : va_P (dC, dI) vwCl (mW cI cZ a S) H) (hD : va_D A (mW cI cZ a S)) (hS : va_S A s.heap H locs) (ls : Array Slot) (hl : lv_has ls 6 [(0, .ref (a 0)), (1, .int x1), (2, .long x2), (4, .int x4), (5, .int x5)]) : W p l e rm_X8_decide s m args below meth c H locs 0 0 (MQ below (va_Qi (fun (r : Int32) (u : St) => (r, u) = Z) (mWB dC dI cI cZ a A) A) args s 0 0 A) (F0 m 160 ls [.int z2, .int z1, .ref (a 15)]) := by
  obtain ⟨hx, hb, hr, hml, hown, hts, hlocks⟩ := id C0
  rw [ok_X8_decide_160] at hok
  rw [rs_X8_decide_160] at hZ
  obtain ⟨h_1, hok⟩ := hok
  refine va_iast hx hb hK hP hD hS 15 0 rfl rfl h_1 dX8_decide_160 (fun H locs hP hD hS => ?_)
  have hP : va_P (dC, dI) vwCl (mW cI cZ a (sA S 20 z1.toNatClampNeg z2)) H := hP
  have hD : va_D A (mW cI cZ a (sA S 20 z1.toNatClampNeg z2)) := hD
  exact w_X8_decide_161 C0 hK hA Z k kk hk (sA S 20 z1.toNatClampNeg z2) x1 x2 x4 x5 hok hZ _ _ hP hD hS _ (lv_sub hl [0, 1, 2, 3, 4] rfl)
def rs_X8_decide_102 : Nat → St → Int32 → Int64 → Int32 → Int32 → Int32 × St
  | 0, S, x1, x2, x4, x5 => (0, S)
  | n + 1, S, x1, x2, x4, x5 => (if (S.1 686) ≤ x5 then (x4, S) else (if ((S.2 18) x5.toNatClampNeg) = x1 then (if ((S.2 22) x5.toNatClampNeg) = 0 then (if (lg_cmp ((x2 >>> (x5.toInt64 &&& 63)) &&& 1) 1) = 0 then (rs_X8_decide_160 (rs_X8_decide_102 n) S x1 x2 x4 x5 x5 ((S.2 20) x5.toNatClampNeg)) else (rs_X8_decide_160 (rs_X8_decide_102 n) S x1 x2 x4 x5 x5 1)) else (rs_X8_decide_172 (rs_X8_decide_102 n) S x1 x2 x4 x5)) else (rs_X8_decide_172 (rs_X8_decide_102 n) S x1 x2 x4 x5)))
def ok_X8_decide_102 : Nat → St → Int32 → Int64 → Int32 → Int32 → Prop
  | 0, _, _, _, _, _ => False
  | n + 1, S, x1, x2, x4, x5 => (if (S.1 686) ≤ x5 then True else ((vp_in x5 40) ∧ (if ((S.2 18) x5.toNatClampNeg) = x1 then ((vp_in x5 40) ∧ (if ((S.2 22) x5.toNatClampNeg) = 0 then (if (lg_cmp ((x2 >>> (x5.toInt64 &&& 63)) &&& 1) 1) = 0 then ((vp_in x5 40) ∧ ok_X8_decide_160 (ok_X8_decide_102 n) S x1 x2 x4 x5 x5 ((S.2 20) x5.toNatClampNeg)) else ok_X8_decide_160 (ok_X8_decide_102 n) S x1 x2 x4 x5 x5 1) else ok_X8_decide_172 (ok_X8_decide_102 n) S x1 x2 x4 x5)) else ok_X8_decide_172 (ok_X8_decide_102 n) S x1 x2 x4 x5)))
set_option maxHeartbeats 4000000 in
set_option maxRecDepth 100000 in
theorem w_X8_decide_102 {p : Program} {l : Launch} {e : Env} {s : State} {m : MethodId} {args : Array Value} {below : List Frame} {meth : Method} {c : Code} {dC : Nat → ClassId} {dI : Nat → Nat → Nat} {cI cZ : ClassId} {a : Nat → Nat} {A : Nat → Prop} (C0 : Cx p s m args meth c RX8 cX8_decide (some .int) 6 wsX8_decide) (hK : va_K (dC, dI) vwCl (tI cI cZ) s) (hA : ∀ q, s.heap.size ≤ q → A q) (Z : Int32 × St) : ∀ (n : Nat) (S : St) (x1 : Int32) (x2 : Int64) (x4 : Int32) (x5 : Int32) (hok : ok_X8_decide_102 n S x1 x2 x4 x5) (hZ : rs_X8_decide_102 n S x1 x2 x4 x5 = Z) (H : Heap) (locs : List Loc) (hP : va_P (dC, dI) vwCl (mW cI cZ a S) H) (hD : va_D A (mW cI cZ a S)) (hS : va_S A s.heap H locs) (ls : Array Slot) (hl : lv_has ls 6 [(0, .ref (a 0)), (1, .int x1), (2, .long x2), (4, .int x4), (5, .int x5)]), W p l e rm_X8_decide s m args below meth c H locs 0 0 (MQ below (va_Qi (fun (r : Int32) (u : St) => (r, u) = Z) (mWB dC dI cI cZ a A) A) args s 0 0 A) (F0 m 102 ls []) := by
  obtain ⟨hx, hb, hr, hml, hown, hts, hlocks⟩ := id C0
  intro n
  induction n with
  | zero => intro S x1 x2 x4 x5 hok; exact absurd hok (fun h => h)
  | succ n ih =>
    intro S x1 x2 x4 x5 hok hZ H locs hP hD hS ls hl
    rw [ok_X8_decide_102] at hok
    rw [rs_X8_decide_102] at hZ
    refine lv_iload hx hb dX8_decide_102 (lv_at hl 4 rfl) ?_
    refine lv_aload_n hx hb dX8_decide_104 rfl (lv_at hl 0 rfl) ?_
    refine va_get (D := (dC, dI)) (ci := 7) (v := .int (S.1 686)) (C := RX8) (T := TX8) (N := 35) hx hb hts iX8_decide_X8 hown hK hP 0 rfl rfl 19 (by decide) (hts (.fieldLink RX8 142 "RiskHouseModel" "cases" "I") (by decide +kernel)) (fun _ h9 => h9) rfl dX8_decide_105 ?_
    refine lv_icmp_ge (tgt := 178) hx hb dX8_decide_108 (by decide) (fun c_1 => ?_) (fun c_1 => ?_)
    · have hok := okT hok c_1
      have hZ := rsT hZ c_1
      refine lv_iload hx hb dX8_decide_178 (lv_at hl 3 rfl) ?_
      exact W.iret (v := x4) hx hb hr (fun t ht hW => ⟨⟨x4, S, rfl, hZ, by rw [ht]; exact hP, va_K.moved hW.alike hK, hD⟩, hS.F ht⟩) hS.2.2 dX8_decide_180 hlocks
    · have hok := okF hok c_1
      have hZ := rsF hZ c_1
      refine lv_aload_n hx hb dX8_decide_111 rfl (lv_at hl 0 rfl) ?_
      refine va_get (D := (dC, dI)) (ci := 7) (v := .ref (a 13)) (C := RX8) (T := TX8) (N := 35) hx hb hts iX8_decide_X8 hown hK hP 0 rfl rfl 20 (by decide) (hts (.fieldLink RX8 51 "RiskHouseModel" "office" "[I") (by decide +kernel)) (fun _ h9 => h9) rfl dX8_decide_112 ?_
      refine lv_iload hx hb dX8_decide_115 (lv_at hl 4 rfl) ?_
      obtain ⟨h_2, hok⟩ := hok
      refine va_iald (f := (S.2 18)) hx hb hK hP 13 0 rfl rfl h_2 dX8_decide_117 ?_
      refine lv_iload_n hx hb dX8_decide_118 rfl (lv_at hl 1 rfl) ?_
      refine lv_icmp_ne (tgt := 172) hx hb dX8_decide_119 (by decide) (fun c_3 => ?_) (fun c_3 => ?_)
      · have hok := okF hok c_3
        have hZ := rsF hZ c_3
        exact w_X8_decide_172 C0 hK hA Z (rs_X8_decide_102 n) (ok_X8_decide_102 n) ih S x1 x2 x4 x5 hok hZ _ _ hP hD hS _ (lv_sub hl [0, 1, 2, 3, 4] rfl)
      · have hok := okT hok c_3
        have hZ := rsT hZ c_3
        refine lv_aload_n hx hb dX8_decide_122 rfl (lv_at hl 0 rfl) ?_
        refine va_get (D := (dC, dI)) (ci := 7) (v := .ref (a 17)) (C := RX8) (T := TX8) (N := 35) hx hb hts iX8_decide_X8 hown hK hP 0 rfl rfl 24 (by decide) (hts (.fieldLink RX8 63 "RiskHouseModel" "decided" "[Z") (by decide +kernel)) (fun _ h9 => h9) rfl dX8_decide_123 ?_
        refine lv_iload hx hb dX8_decide_126 (lv_at hl 4 rfl) ?_
        obtain ⟨h_4, hok⟩ := hok
        refine va_zald (f := (S.2 22)) hx hb hK hP 17 1 rfl rfl h_4 dX8_decide_128 ?_
        refine lv_if_ne (tgt := 172) hx hb dX8_decide_129 (by decide) (fun c_5 => ?_) (fun c_5 => ?_)
        · have hok := okF hok c_5
          have hZ := rsF hZ c_5
          exact w_X8_decide_172 C0 hK hA Z (rs_X8_decide_102 n) (ok_X8_decide_102 n) ih S x1 x2 x4 x5 hok hZ _ _ hP hD hS _ (lv_sub hl [0, 1, 2, 3, 4] rfl)
        · have hok := okT hok c_5
          have hZ := rsT hZ c_5
          refine lv_aload_n hx hb dX8_decide_132 rfl (lv_at hl 0 rfl) ?_
          refine va_get (D := (dC, dI)) (ci := 7) (v := .ref (a 15)) (C := RX8) (T := TX8) (N := 35) hx hb hts iX8_decide_X8 hown hK hP 0 rfl rfl 22 (by decide) (hts (.fieldLink RX8 57 "RiskHouseModel" "path" "[I") (by decide +kernel)) (fun _ h9 => h9) rfl dX8_decide_133 ?_
          refine lv_iload hx hb dX8_decide_136 (lv_at hl 4 rfl) ?_
          refine lv_lload_n hx hb dX8_decide_138 rfl (lv_at hl 2 rfl) ?_
          refine lv_iload hx hb dX8_decide_139 (lv_at hl 4 rfl) ?_
          refine lv_lshr hx hb dX8_decide_141 rfl ?_
          refine lv_lconst (v := 1) hx hb dX8_decide_142 (by decide) ?_
          refine lv_land hx hb dX8_decide_143 ?_
          refine lv_lconst (v := 1) hx hb dX8_decide_144 (by decide) ?_
          refine W.lcmp hx hb dX8_decide_145 ?_
          refine lv_if_ne (tgt := 159) hx hb dX8_decide_146 (by decide) (fun c_6 => ?_) (fun c_6 => ?_)
          · have hok := okF hok c_6
            have hZ := rsF hZ c_6
            refine lv_iconst (v := 1) hx hb dX8_decide_159 (by decide) ?_
            exact w_X8_decide_160 C0 hK hA Z (rs_X8_decide_102 n) (ok_X8_decide_102 n) ih S x1 x2 x4 x5 x5 1 hok hZ _ _ hP hD hS _ (lv_sub hl [0, 1, 2, 3, 4] rfl)
          · have hok := okT hok c_6
            have hZ := rsT hZ c_6
            refine lv_aload_n hx hb dX8_decide_149 rfl (lv_at hl 0 rfl) ?_
            refine va_get (D := (dC, dI)) (ci := 7) (v := .ref (a 15)) (C := RX8) (T := TX8) (N := 35) hx hb hts iX8_decide_X8 hown hK hP 0 rfl rfl 22 (by decide) (hts (.fieldLink RX8 57 "RiskHouseModel" "path" "[I") (by decide +kernel)) (fun _ h9 => h9) rfl dX8_decide_150 ?_
            refine lv_iload hx hb dX8_decide_153 (lv_at hl 4 rfl) ?_
            obtain ⟨h_7, hok⟩ := hok
            refine va_iald (f := (S.2 20)) hx hb hK hP 15 0 rfl rfl h_7 dX8_decide_155 ?_
            refine lv_goto (tgt := 160) hx hb dX8_decide_156 (by decide) ?_
            exact w_X8_decide_160 C0 hK hA Z (rs_X8_decide_102 n) (ok_X8_decide_102 n) ih S x1 x2 x4 x5 x5 ((S.2 20) x5.toNatClampNeg) hok hZ _ _ hP hD hS _ (lv_sub hl [0, 1, 2, 3, 4] rfl)
def rs_X8_decide_23 : Nat → St → Int32 → Int64 → Int32 → Int32 × St
  | 0, S, x1, x2, x4 => (0, S)
  | n + 1, S, x1, x2, x4 => (if (S.1 686) ≤ x4 then (rs_X8_decide_102 100 S x1 x2 0 0) else (if ((S.2 18) x4.toNatClampNeg) = x1 then (if ((S.2 22) x4.toNatClampNeg) = 0 then (if ((S.2 20) x4.toNatClampNeg) < 2 then (rs_X8_decide_80 (rs_X8_decide_23 n) S x1 x4 x2) else (rs_X8_decide_71 (rs_X8_decide_23 n) (rs_X8_ahead S x4).2 x1 x4 x2 ((rs_X8_ahead S x4).1))) else (rs_X8_decide_87 (rs_X8_decide_23 n) S x1 x4 x2)) else (rs_X8_decide_87 (rs_X8_decide_23 n) S x1 x4 x2)))
def ok_X8_decide_23 : Nat → St → Int32 → Int64 → Int32 → Prop
  | 0, _, _, _, _ => False
  | n + 1, S, x1, x2, x4 => (if (S.1 686) ≤ x4 then ok_X8_decide_102 100 S x1 x2 0 0 else ((vp_in x4 40) ∧ (if ((S.2 18) x4.toNatClampNeg) = x1 then ((vp_in x4 40) ∧ (if ((S.2 22) x4.toNatClampNeg) = 0 then ((vp_in x4 40) ∧ (if ((S.2 20) x4.toNatClampNeg) < 2 then ok_X8_decide_80 (ok_X8_decide_23 n) S x1 x4 x2 else ((ok_X8_ahead S x4) ∧ ok_X8_decide_71 (ok_X8_decide_23 n) (rs_X8_ahead S x4).2 x1 x4 x2 ((rs_X8_ahead S x4).1)))) else ok_X8_decide_87 (ok_X8_decide_23 n) S x1 x4 x2)) else ok_X8_decide_87 (ok_X8_decide_23 n) S x1 x4 x2)))
set_option maxHeartbeats 4000000 in
set_option maxRecDepth 100000 in
theorem w_X8_decide_23 {p : Program} {l : Launch} {e : Env} {s : State} {m : MethodId} {args : Array Value} {below : List Frame} {meth : Method} {c : Code} {dC : Nat → ClassId} {dI : Nat → Nat → Nat} {cI cZ : ClassId} {a : Nat → Nat} {A : Nat → Prop} (C0 : Cx p s m args meth c RX8 cX8_decide (some .int) 6 wsX8_decide) (hK : va_K (dC, dI) vwCl (tI cI cZ) s) (hA : ∀ q, s.heap.size ≤ q → A q) (Z : Int32 × St) : ∀ (n : Nat) (S : St) (x1 : Int32) (x2 : Int64) (x4 : Int32) (hok : ok_X8_decide_23 n S x1 x2 x4) (hZ : rs_X8_decide_23 n S x1 x2 x4 = Z) (H : Heap) (locs : List Loc) (hP : va_P (dC, dI) vwCl (mW cI cZ a S) H) (hD : va_D A (mW cI cZ a S)) (hS : va_S A s.heap H locs) (ls : Array Slot) (hl : lv_has ls 6 [(0, .ref (a 0)), (1, .int x1), (2, .long x2), (4, .int x4)]), W p l e rm_X8_decide s m args below meth c H locs 0 0 (MQ below (va_Qi (fun (r : Int32) (u : St) => (r, u) = Z) (mWB dC dI cI cZ a A) A) args s 0 0 A) (F0 m 23 ls []) := by
  obtain ⟨hx, hb, hr, hml, hown, hts, hlocks⟩ := id C0
  intro n
  induction n with
  | zero => intro S x1 x2 x4 hok; exact absurd hok (fun h => h)
  | succ n ih =>
    intro S x1 x2 x4 hok hZ H locs hP hD hS ls hl
    rw [ok_X8_decide_23] at hok
    rw [rs_X8_decide_23] at hZ
    refine lv_iload hx hb dX8_decide_23 (lv_at hl 3 rfl) ?_
    refine lv_aload_n hx hb dX8_decide_25 rfl (lv_at hl 0 rfl) ?_
    refine va_get (D := (dC, dI)) (ci := 7) (v := .int (S.1 686)) (C := RX8) (T := TX8) (N := 35) hx hb hts iX8_decide_X8 hown hK hP 0 rfl rfl 19 (by decide) (hts (.fieldLink RX8 142 "RiskHouseModel" "cases" "I") (by decide +kernel)) (fun _ h9 => h9) rfl dX8_decide_26 ?_
    refine lv_icmp_ge (tgt := 96) hx hb dX8_decide_29 (by decide) (fun c_1 => ?_) (fun c_1 => ?_)
    · have hok := okT hok c_1
      have hZ := rsT hZ c_1
      refine lv_iconst (v := 0) hx hb dX8_decide_96 (by decide) ?_
      refine lv_istore (lv' := [(4, .int 0), (0, .ref (a 0)), (1, .int x1), (2, .long x2)]) hx hb dX8_decide_97 hl (by decide) rfl (fun ls hl => ?_)
      refine lv_iconst (v := 0) hx hb dX8_decide_99 (by decide) ?_
      refine lv_istore (lv' := [(5, .int 0), (4, .int 0), (0, .ref (a 0)), (1, .int x1), (2, .long x2)]) hx hb dX8_decide_100 hl (by decide) rfl (fun ls hl => ?_)
      exact w_X8_decide_102 C0 hK hA Z 100 S x1 x2 0 0 hok hZ _ _ hP hD hS _ (lv_sub hl [2, 3, 4, 1, 0] rfl)
    · have hok := okF hok c_1
      have hZ := rsF hZ c_1
      refine lv_lload_n hx hb dX8_decide_32 rfl (lv_at hl 2 rfl) ?_
      refine lv_aload_n hx hb dX8_decide_33 rfl (lv_at hl 0 rfl) ?_
      refine va_get (D := (dC, dI)) (ci := 7) (v := .ref (a 13)) (C := RX8) (T := TX8) (N := 35) hx hb hts iX8_decide_X8 hown hK hP 0 rfl rfl 20 (by decide) (hts (.fieldLink RX8 51 "RiskHouseModel" "office" "[I") (by decide +kernel)) (fun _ h9 => h9) rfl dX8_decide_34 ?_
      refine lv_iload hx hb dX8_decide_37 (lv_at hl 3 rfl) ?_
      obtain ⟨h_2, hok⟩ := hok
      refine va_iald (f := (S.2 18)) hx hb hK hP 13 0 rfl rfl h_2 dX8_decide_39 ?_
      refine lv_iload_n hx hb dX8_decide_40 rfl (lv_at hl 1 rfl) ?_
      refine lv_icmp_ne (tgt := 87) hx hb dX8_decide_41 (by decide) (fun c_3 => ?_) (fun c_3 => ?_)
      · have hok := okF hok c_3
        have hZ := rsF hZ c_3
        exact w_X8_decide_87 C0 hK hA Z (rs_X8_decide_23 n) (ok_X8_decide_23 n) ih S x1 x4 x2 hok hZ _ _ hP hD hS _ (lv_sub hl [0, 1, 3] rfl)
      · have hok := okT hok c_3
        have hZ := rsT hZ c_3
        refine lv_aload_n hx hb dX8_decide_44 rfl (lv_at hl 0 rfl) ?_
        refine va_get (D := (dC, dI)) (ci := 7) (v := .ref (a 17)) (C := RX8) (T := TX8) (N := 35) hx hb hts iX8_decide_X8 hown hK hP 0 rfl rfl 24 (by decide) (hts (.fieldLink RX8 63 "RiskHouseModel" "decided" "[Z") (by decide +kernel)) (fun _ h9 => h9) rfl dX8_decide_45 ?_
        refine lv_iload hx hb dX8_decide_48 (lv_at hl 3 rfl) ?_
        obtain ⟨h_4, hok⟩ := hok
        refine va_zald (f := (S.2 22)) hx hb hK hP 17 1 rfl rfl h_4 dX8_decide_50 ?_
        refine lv_if_ne (tgt := 87) hx hb dX8_decide_51 (by decide) (fun c_5 => ?_) (fun c_5 => ?_)
        · have hok := okF hok c_5
          have hZ := rsF hZ c_5
          exact w_X8_decide_87 C0 hK hA Z (rs_X8_decide_23 n) (ok_X8_decide_23 n) ih S x1 x4 x2 hok hZ _ _ hP hD hS _ (lv_sub hl [0, 1, 3] rfl)
        · have hok := okT hok c_5
          have hZ := rsT hZ c_5
          refine lv_aload_n hx hb dX8_decide_54 rfl (lv_at hl 0 rfl) ?_
          refine va_get (D := (dC, dI)) (ci := 7) (v := .ref (a 15)) (C := RX8) (T := TX8) (N := 35) hx hb hts iX8_decide_X8 hown hK hP 0 rfl rfl 22 (by decide) (hts (.fieldLink RX8 57 "RiskHouseModel" "path" "[I") (by decide +kernel)) (fun _ h9 => h9) rfl dX8_decide_55 ?_
          refine lv_iload hx hb dX8_decide_58 (lv_at hl 3 rfl) ?_
          obtain ⟨h_6, hok⟩ := hok
          refine va_iald (f := (S.2 20)) hx hb hK hP 15 0 rfl rfl h_6 dX8_decide_60 ?_
          refine lv_iconst (v := 2) hx hb dX8_decide_61 (by decide) ?_
          refine lv_icmp_lt (tgt := 80) hx hb dX8_decide_62 (by decide) (fun c_7 => ?_) (fun c_7 => ?_)
          · have hok := okT hok c_7
            have hZ := rsT hZ c_7
            exact w_X8_decide_80 C0 hK hA Z (rs_X8_decide_23 n) (ok_X8_decide_23 n) ih S x1 x4 x2 hok hZ _ _ hP hD hS _ (lv_sub hl [0, 1, 3] rfl)
          · have hok := okF hok c_7
            have hZ := rsF hZ c_7
            refine lv_aload_n hx hb dX8_decide_65 rfl (lv_at hl 0 rfl) ?_
            refine lv_iload hx hb dX8_decide_66 (lv_at hl 3 rfl) ?_
            obtain ⟨k_8, hok⟩ := hok
            have hFc := wFw (w := mW cI cZ a S) hD hS hA
            refine va_calli (va_runV (As := [.int x4]) (rest := [.long x2]) ⟨hx, hb, hml, hown, hts⟩ (c_X8_ahead l dC dI cI cZ a H.size S x4 k_8) (cwV 1 hts gX8_decide_X8_ahead rfl rfl rfl (by decide +kernel) ⟨Nat.le_of_ble_eq_true rfl, Nat.le_of_ble_eq_true rfl⟩) ⟨wBl, va_recv hK hP (ci := 7) (q0 := 0) rfl rfl, fun U hU hW => ⟨rfl, by rw [hU], by rw [hU]; exact hP, va_K.moved hW.alike hK, hD.weaken (fun _ _ _ _ => trivial)⟩⟩ rfl rfl hl.1 rfl (lv_room (Nat.le_of_ble_eq_true rfl)) dX8_decide_68 ⟨Nat.zero_le _, Nat.zero_le _⟩) hS (fun q _ h => hFc q h) hFc (fun r u t H1 locs ht hvm hw hB hz1 hk1 hS => ?_)
            obtain ⟨hP, hD⟩ := wJn ht hFc hB.1 hB.2.2
            have e1 : r = (rs_X8_ahead S x4).1 := congrArg Prod.fst hw
            have e2 : u = (rs_X8_ahead S x4).2 := congrArg Prod.snd hw
            rw [e1]
            rw [e2] at hP hD
            generalize H1 = H at hP hS ⊢
            exact w_X8_decide_71 C0 hK hA Z (rs_X8_decide_23 n) (ok_X8_decide_23 n) ih (rs_X8_ahead S x4).2 x1 x4 x2 ((rs_X8_ahead S x4).1) hok hZ _ _ hP hD hS _ (lv_sub hl [0, 1, 3] rfl)
def rs_X8_decide (S : St) (x1 : Int32) : Int32 × St := (if (rs_X8_isFour x1) = 0 then (rs_X8_decide_12 (rs_X8_refuse S 1).2 ((rs_X8_refuse S 1).1)) else (rs_X8_decide_23 100 (sI S 2000 0) x1 0 0))
def ok_X8_decide (S : St) (x1 : Int32) : Prop := ((ok_X8_isFour x1) ∧ (if (rs_X8_isFour x1) = 0 then ((ok_X8_refuse S 1) ∧ ok_X8_decide_12 (rs_X8_refuse S 1).2 ((rs_X8_refuse S 1).1)) else ok_X8_decide_23 100 (sI S 2000 0) x1 0 0))
set_option maxHeartbeats 4000000 in
set_option maxRecDepth 100000 in
theorem w_X8_decide {p : Program} {l : Launch} {e : Env} {s : State} {m : MethodId} {args : Array Value} {below : List Frame} {meth : Method} {c : Code} {dC : Nat → ClassId} {dI : Nat → Nat → Nat} {cI cZ : ClassId} {a : Nat → Nat} {A : Nat → Prop} (C0 : Cx p s m args meth c RX8 cX8_decide (some .int) 6 wsX8_decide) (hK : va_K (dC, dI) vwCl (tI cI cZ) s) (hA : ∀ q, s.heap.size ≤ q → A q) (Z : Int32 × St) (S : St) (x1 : Int32) (hok : ok_X8_decide S x1) (hZ : rs_X8_decide S x1 = Z) (H : Heap) (locs : List Loc) (hP : va_P (dC, dI) vwCl (mW cI cZ a S) H) (hD : va_D A (mW cI cZ a S)) (hS : va_S A s.heap H locs) (ls : Array Slot) (hl : lv_has ls 6 [(0, .ref (a 0)), (1, .int x1)]) : W p l e rm_X8_decide s m args below meth c H locs 0 0 (MQ below (va_Qi (fun (r : Int32) (u : St) => (r, u) = Z) (mWB dC dI cI cZ a A) A) args s 0 0 A) (F0 m 0 ls []) := by
  obtain ⟨hx, hb, hr, hml, hown, hts, hlocks⟩ := id C0
  rw [ok_X8_decide] at hok
  rw [rs_X8_decide] at hZ
  refine lv_iload_n hx hb dX8_decide_0 rfl (lv_at hl 1 rfl) ?_
  obtain ⟨k_1, hok⟩ := hok
  have hFc := wFr hS hA
  refine va_calli (va_runS (As := [.int x1]) (rest := []) ⟨hx, hb, hml, hown, hts⟩ (c_X8_isFour l H.size x1 k_1) (va_cwS 1 hts gX8_decide_X8_isFour rfl rfl rfl (by decide +kernel) ⟨Nat.le_of_ble_eq_true rfl, Nat.le_of_ble_eq_true rfl⟩) ⟨fun a9 U g9 mk9 q9 => q9, fun U hU hW => ⟨rfl, congrArg Array.size hU⟩⟩ rfl rfl hl.1 rfl (lv_room (Nat.le_of_ble_eq_true rfl)) dX8_decide_1 ⟨Nat.zero_le _, Nat.zero_le _⟩) hS (fun q _ h => hFc q h) hFc (fun r u t H1 locs ht hvm hw hB hz1 hk1 hS => ?_)
  have hP := wKp hP hk1
  subst hw
  generalize H1 = H at hP hS ⊢
  refine lv_if_ne (tgt := 13) hx hb dX8_decide_4 (by decide) (fun c_2 => ?_) (fun c_2 => ?_)
  · have hok := okF hok c_2
    have hZ := rsF hZ c_2
    refine lv_aload_n hx hb dX8_decide_13 rfl (lv_at hl 0 rfl) ?_
    refine lv_iconst (v := 0) hx hb dX8_decide_14 (by decide) ?_
    refine va_put (D := (dC, dI)) (ci := 7) (v := .int 0) (ty := .int) (C := RX8) (T := TX8) (N := 35) hx hb hts iX8_decide_X8 tyX8 tyX8_ok nmX8 hown hK hP hD hS 0 rfl rfl 0 (by decide) (hts (.fieldLink RX8 88 "RiskHouseModel" "thrown" "I") (by decide +kernel)) (fun _ h9 => h9) rfl (by decide +kernel) rfl rfl (Nat.le_of_ble_eq_true rfl) dX8_decide_15 (fun H locs hP hD hS => ?_)
    have hP : va_P (dC, dI) vwCl (mW cI cZ a (sI S 2000 0)) H := hP
    have hD : va_D A (mW cI cZ a (sI S 2000 0)) := hD
    refine lv_lconst (v := 0) hx hb dX8_decide_18 (by decide) ?_
    refine lv_lstore_n (lv' := [(2, .long 0), (0, .ref (a 0)), (1, .int x1)]) hx hb dX8_decide_19 rfl hl (by decide) rfl (fun ls hl => ?_)
    refine lv_iconst (v := 0) hx hb dX8_decide_20 (by decide) ?_
    refine lv_istore (lv' := [(4, .int 0), (2, .long 0), (0, .ref (a 0)), (1, .int x1)]) hx hb dX8_decide_21 hl (by decide) rfl (fun ls hl => ?_)
    exact w_X8_decide_23 C0 hK hA Z 100 (sI S 2000 0) x1 0 0 hok hZ _ _ hP hD hS _ (lv_sub hl [2, 3, 1, 0] rfl)
  · have hok := okT hok c_2
    have hZ := rsT hZ c_2
    refine lv_aload_n hx hb dX8_decide_7 rfl (lv_at hl 0 rfl) ?_
    refine lv_iconst (v := 1) hx hb dX8_decide_8 (by decide) ?_
    obtain ⟨k_3, hok⟩ := hok
    have hFc := wFw (w := mW cI cZ a S) hD hS hA
    refine va_calli (va_runV (As := [.int 1]) (rest := []) ⟨hx, hb, hml, hown, hts⟩ (c_X8_refuse l dC dI cI cZ a H.size S 1 k_3) (cwV 1 hts gX8_decide_X8_refuse rfl rfl rfl (by decide +kernel) ⟨Nat.le_of_ble_eq_true rfl, Nat.le_of_ble_eq_true rfl⟩) ⟨wBl, va_recv hK hP (ci := 7) (q0 := 0) rfl rfl, fun U hU hW => ⟨rfl, by rw [hU], by rw [hU]; exact hP, va_K.moved hW.alike hK, hD.weaken (fun _ _ _ _ => trivial)⟩⟩ rfl rfl hl.1 rfl (lv_room (Nat.le_of_ble_eq_true rfl)) dX8_decide_9 ⟨Nat.zero_le _, Nat.zero_le _⟩) hS (fun q _ h => hFc q h) hFc (fun r u t H1 locs ht hvm hw hB hz1 hk1 hS => ?_)
    obtain ⟨hP, hD⟩ := wJn ht hFc hB.1 hB.2.2
    have e1 : r = (rs_X8_refuse S 1).1 := congrArg Prod.fst hw
    have e2 : u = (rs_X8_refuse S 1).2 := congrArg Prod.snd hw
    rw [e1]
    rw [e2] at hP hD
    generalize H1 = H at hP hS ⊢
    exact w_X8_decide_12 C0 hK hA Z (rs_X8_refuse S 1).2 ((rs_X8_refuse S 1).1) hok hZ _ _ hP hD hS _ (lv_sub hl [] rfl)
set_option maxHeartbeats 4000000 in
set_option maxRecDepth 100000 in
theorem c_X8_decide (l : Launch) (dC : Nat → ClassId) (dI : Nat → Nat → Nat) (cI cZ : ClassId) (a : Nat → Nat) (sz : Nat) (S : St) (x1 : Int32) (hok : ok_X8_decide S x1) : Met l yX8_decide wsX8_decide rm_X8_decide (va_Pc [.ref (a 0), .int x1] (mWP dC dI cI cZ a sz S)) (va_Qi (fun (r : Int32) (u : St) => (r, u) = rs_X8_decide S x1) (mWB dC dI cI cZ a (va_A (mW cI cZ a S) sz)) (va_A (mW cI cZ a S) sz)) 0 0 (va_A (mW cI cZ a S) sz) := by
  refine Met.ofW (cc := cX8_decide) (maxL := 6) (ret := (some .int)) (by decide) rfl ?_
  intro p e s m args below meth c s₁ B hml hv
  obtain ⟨rfl, hsz, hP, hK, hD0⟩ := hv
  subst hsz
  have hD := hD0.self (sz := s.heap.size)
  have hl := lv_entry ([.ref (a 0), .int x1]) (n := 6) (Nat.le_of_ble_eq_true rfl)
  rw [lg_entry_eq]
  generalize (lg_sl ([.ref (a 0), .int x1]) ++ List.replicate (6 - (lg_sl ([.ref (a 0), .int x1])).length) Slot.unset).toArray = ls at hl ⊢
  have hl : lv_has ls 6 [(0, .ref (a 0)), (1, .int x1)] := hl
  exact w_X8_decide ⟨B.exec, B.bytes, B.returns, hml, findClass_of_methodNamed B.named, atoms_spec (ws := wsX8_decide) B.pre, B.notSynchronized⟩ hK (fun q h => Or.inr h) _ S x1 hok rfl _ _ hP hD va_S.rf ls hl
abbrev rm_X8_of : Room := { frames := 1, cells := 0, slots := 0, locals := 22 }
theorem iX8_of_X8 : ∀ w ∈ wsX80, w ∈ wsX8_of := by decide +kernel
def rs_X8_of_26 (S : St) (z0 : Int32) : Int32 × St := (z0, S)
def ok_X8_of_26 (S : St) (z0 : Int32) : Prop := True
set_option maxHeartbeats 4000000 in
set_option maxRecDepth 100000 in
theorem w_X8_of_26 {p : Program} {l : Launch} {e : Env} {s : State} {m : MethodId} {args : Array Value} {below : List Frame} {meth : Method} {c : Code} {dC : Nat → ClassId} {dI : Nat → Nat → Nat} {cI cZ : ClassId} {a : Nat → Nat} {A : Nat → Prop} (C0 : Cx p s m args meth c RX8 cX8_of (some .int) 3 wsX8_of) (hK : va_K (dC, dI) vwCl (tI cI cZ) s) (hA : ∀ q, s.heap.size ≤ q → A q) (Z : Int32 × St) (S : St) (z0 : Int32) (hok : ok_X8_of_26 S z0) (hZ : rs_X8_of_26 S z0 = Z) (H : Heap) (locs : List Loc) (hP : va_P (dC, dI) vwCl (mW cI cZ a S) H) (hD : va_D A (mW cI cZ a S)) (hS : va_S A s.heap H locs) (ls : Array Slot) (hl : lv_has ls 3 []) : W p l e rm_X8_of s m args below meth c H locs 0 0 (MQ below (va_Qi (fun (r : Int32) (u : St) => (r, u) = Z) (mWB dC dI cI cZ a A) A) args s 0 0 A) (F0 m 26 ls [.int z0]) := by
  obtain ⟨hx, hb, hr, hml, hown, hts, hlocks⟩ := id C0
  rw [ok_X8_of_26] at hok
  rw [rs_X8_of_26] at hZ
  exact W.iret (v := z0) hx hb hr (fun t ht hW => ⟨⟨z0, S, rfl, hZ, by rw [ht]; exact hP, va_K.moved hW.alike hK, hD⟩, hS.F ht⟩) hS.2.2 dX8_of_26 hlocks
def rs_X8_of_21 (S : St)  : Int32 × St := (rs_X8_of_26 (rs_X8_refuse S 1).2 ((rs_X8_refuse S 1).1))
def ok_X8_of_21 (S : St)  : Prop := ((ok_X8_refuse S 1) ∧ ok_X8_of_26 (rs_X8_refuse S 1).2 ((rs_X8_refuse S 1).1))
set_option maxHeartbeats 4000000 in
set_option maxRecDepth 100000 in
theorem w_X8_of_21 {p : Program} {l : Launch} {e : Env} {s : State} {m : MethodId} {args : Array Value} {below : List Frame} {meth : Method} {c : Code} {dC : Nat → ClassId} {dI : Nat → Nat → Nat} {cI cZ : ClassId} {a : Nat → Nat} {A : Nat → Prop} (C0 : Cx p s m args meth c RX8 cX8_of (some .int) 3 wsX8_of) (hK : va_K (dC, dI) vwCl (tI cI cZ) s) (hA : ∀ q, s.heap.size ≤ q → A q) (Z : Int32 × St) (S : St)  (hok : ok_X8_of_21 S) (hZ : rs_X8_of_21 S = Z) (H : Heap) (locs : List Loc) (hP : va_P (dC, dI) vwCl (mW cI cZ a S) H) (hD : va_D A (mW cI cZ a S)) (hS : va_S A s.heap H locs) (ls : Array Slot) (hl : lv_has ls 3 [(0, .ref (a 0))]) : W p l e rm_X8_of s m args below meth c H locs 0 0 (MQ below (va_Qi (fun (r : Int32) (u : St) => (r, u) = Z) (mWB dC dI cI cZ a A) A) args s 0 0 A) (F0 m 21 ls []) := by
  obtain ⟨hx, hb, hr, hml, hown, hts, hlocks⟩ := id C0
  rw [ok_X8_of_21] at hok
  rw [rs_X8_of_21] at hZ
  refine lv_aload_n hx hb dX8_of_21 rfl (lv_at hl 0 rfl) ?_
  refine lv_iconst (v := 1) hx hb dX8_of_22 (by decide) ?_
  obtain ⟨k_1, hok⟩ := hok
  have hFc := wFw (w := mW cI cZ a S) hD hS hA
  refine va_calli (va_runV (As := [.int 1]) (rest := []) ⟨hx, hb, hml, hown, hts⟩ (c_X8_refuse l dC dI cI cZ a H.size S 1 k_1) (cwV 1 hts gX8_of_X8_refuse rfl rfl rfl (by decide +kernel) ⟨Nat.le_of_ble_eq_true rfl, Nat.le_of_ble_eq_true rfl⟩) ⟨wBl, va_recv hK hP (ci := 7) (q0 := 0) rfl rfl, fun U hU hW => ⟨rfl, by rw [hU], by rw [hU]; exact hP, va_K.moved hW.alike hK, hD.weaken (fun _ _ _ _ => trivial)⟩⟩ rfl rfl hl.1 rfl (lv_room (Nat.le_of_ble_eq_true rfl)) dX8_of_23 ⟨Nat.zero_le _, Nat.zero_le _⟩) hS (fun q _ h => hFc q h) hFc (fun r u t H1 locs ht hvm hw hB hz1 hk1 hS => ?_)
  obtain ⟨hP, hD⟩ := wJn ht hFc hB.1 hB.2.2
  have e1 : r = (rs_X8_refuse S 1).1 := congrArg Prod.fst hw
  have e2 : u = (rs_X8_refuse S 1).2 := congrArg Prod.snd hw
  rw [e1]
  rw [e2] at hP hD
  generalize H1 = H at hP hS ⊢
  exact w_X8_of_26 C0 hK hA Z (rs_X8_refuse S 1).2 ((rs_X8_refuse S 1).1) hok hZ _ _ hP hD hS _ (lv_sub hl [] rfl)
def rs_X8_of (S : St) (x1 : Int32) (x2 : Int32) : Int32 × St := (if x1 < 0 then (rs_X8_of_21 S) else (if (S.1 686) ≤ x1 then (rs_X8_of_21 S) else (if (rs_X8_in x2 0 4) = 0 then (rs_X8_of_21 S) else (if x2 = 0 then (((S.2 18) x1.toNatClampNeg), (sI S 2000 0)) else (if x2 = 1 then (((S.2 19) x1.toNatClampNeg), (sI S 2000 0)) else (if x2 = 2 then (if ((S.2 22) x1.toNatClampNeg) = 0 then ((-1), (sI S 2000 0)) else (((S.2 20) x1.toNatClampNeg), (sI S 2000 0))) else (if x2 = 3 then (if ((S.2 21) x1.toNatClampNeg) = 0 then (0, (sI S 2000 0)) else (1, (sI S 2000 0))) else (((S.2 23) x1.toNatClampNeg), (sI S 2000 0)))))))))
def ok_X8_of (S : St) (x1 : Int32) (x2 : Int32) : Prop := (if x1 < 0 then ok_X8_of_21 S else (if (S.1 686) ≤ x1 then ok_X8_of_21 S else ((ok_X8_in x2 0 4) ∧ (if (rs_X8_in x2 0 4) = 0 then ok_X8_of_21 S else (if x2 = 0 then ((vp_in x1 40) ∧ True) else (if x2 = 1 then ((vp_in x1 40) ∧ True) else (if x2 = 2 then ((vp_in x1 40) ∧ (if ((S.2 22) x1.toNatClampNeg) = 0 then True else ((vp_in x1 40) ∧ True))) else (if x2 = 3 then ((vp_in x1 40) ∧ (if ((S.2 21) x1.toNatClampNeg) = 0 then True else True)) else ((vp_in x1 40) ∧ True)))))))))
set_option maxHeartbeats 4000000 in
set_option maxRecDepth 100000 in
theorem w_X8_of {p : Program} {l : Launch} {e : Env} {s : State} {m : MethodId} {args : Array Value} {below : List Frame} {meth : Method} {c : Code} {dC : Nat → ClassId} {dI : Nat → Nat → Nat} {cI cZ : ClassId} {a : Nat → Nat} {A : Nat → Prop} (C0 : Cx p s m args meth c RX8 cX8_of (some .int) 3 wsX8_of) (hK : va_K (dC, dI) vwCl (tI cI cZ) s) (hA : ∀ q, s.heap.size ≤ q → A q) (Z : Int32 × St) (S : St) (x1 : Int32) (x2 : Int32) (hok : ok_X8_of S x1 x2) (hZ : rs_X8_of S x1 x2 = Z) (H : Heap) (locs : List Loc) (hP : va_P (dC, dI) vwCl (mW cI cZ a S) H) (hD : va_D A (mW cI cZ a S)) (hS : va_S A s.heap H locs) (ls : Array Slot) (hl : lv_has ls 3 [(0, .ref (a 0)), (1, .int x1), (2, .int x2)]) : W p l e rm_X8_of s m args below meth c H locs 0 0 (MQ below (va_Qi (fun (r : Int32) (u : St) => (r, u) = Z) (mWB dC dI cI cZ a A) A) args s 0 0 A) (F0 m 0 ls []) := by
  obtain ⟨hx, hb, hr, hml, hown, hts, hlocks⟩ := id C0
  rw [ok_X8_of] at hok
  rw [rs_X8_of] at hZ
  refine lv_iload_n hx hb dX8_of_0 rfl (lv_at hl 1 rfl) ?_
  refine lv_if_lt (tgt := 21) hx hb dX8_of_1 (by decide) (fun c_1 => ?_) (fun c_1 => ?_)
  · have hok := okT hok c_1
    have hZ := rsT hZ c_1
    exact w_X8_of_21 C0 hK hA Z S hok hZ _ _ hP hD hS _ (lv_sub hl [0] rfl)
  · have hok := okF hok c_1
    have hZ := rsF hZ c_1
    refine lv_iload_n hx hb dX8_of_4 rfl (lv_at hl 1 rfl) ?_
    refine lv_aload_n hx hb dX8_of_5 rfl (lv_at hl 0 rfl) ?_
    refine va_get (D := (dC, dI)) (ci := 7) (v := .int (S.1 686)) (C := RX8) (T := TX8) (N := 35) hx hb hts iX8_of_X8 hown hK hP 0 rfl rfl 19 (by decide) (hts (.fieldLink RX8 142 "RiskHouseModel" "cases" "I") (by decide +kernel)) (fun _ h9 => h9) rfl dX8_of_6 ?_
    refine lv_icmp_ge (tgt := 21) hx hb dX8_of_9 (by decide) (fun c_2 => ?_) (fun c_2 => ?_)
    · have hok := okT hok c_2
      have hZ := rsT hZ c_2
      exact w_X8_of_21 C0 hK hA Z S hok hZ _ _ hP hD hS _ (lv_sub hl [0] rfl)
    · have hok := okF hok c_2
      have hZ := rsF hZ c_2
      refine lv_iload_n hx hb dX8_of_12 rfl (lv_at hl 2 rfl) ?_
      refine lv_iconst (v := 0) hx hb dX8_of_13 (by decide) ?_
      refine lv_iconst (v := 4) hx hb dX8_of_14 (by decide) ?_
      obtain ⟨k_3, hok⟩ := hok
      have hFc := wFr hS hA
      refine va_calli (va_runS (As := [.int x2, .int 0, .int 4]) (rest := []) ⟨hx, hb, hml, hown, hts⟩ (c_X8_in l H.size x2 0 4 k_3) (va_cwS 3 hts gX8_of_X8_in rfl rfl rfl (by decide +kernel) ⟨Nat.le_of_ble_eq_true rfl, Nat.le_of_ble_eq_true rfl⟩) ⟨fun a9 U g9 mk9 q9 => q9, fun U hU hW => ⟨rfl, congrArg Array.size hU⟩⟩ rfl rfl hl.1 rfl (lv_room (Nat.le_of_ble_eq_true rfl)) dX8_of_15 ⟨Nat.zero_le _, Nat.zero_le _⟩) hS (fun q _ h => hFc q h) hFc (fun r u t H1 locs ht hvm hw hB hz1 hk1 hS => ?_)
      have hP := wKp hP hk1
      subst hw
      generalize H1 = H at hP hS ⊢
      refine lv_if_ne (tgt := 27) hx hb dX8_of_18 (by decide) (fun c_4 => ?_) (fun c_4 => ?_)
      · have hok := okF hok c_4
        have hZ := rsF hZ c_4
        refine lv_aload_n hx hb dX8_of_27 rfl (lv_at hl 0 rfl) ?_
        refine lv_iconst (v := 0) hx hb dX8_of_28 (by decide) ?_
        refine va_put (D := (dC, dI)) (ci := 7) (v := .int 0) (ty := .int) (C := RX8) (T := TX8) (N := 35) hx hb hts iX8_of_X8 tyX8 tyX8_ok nmX8 hown hK hP hD hS 0 rfl rfl 0 (by decide) (hts (.fieldLink RX8 88 "RiskHouseModel" "thrown" "I") (by decide +kernel)) (fun _ h9 => h9) rfl (by decide +kernel) rfl rfl (Nat.le_of_ble_eq_true rfl) dX8_of_29 (fun H locs hP hD hS => ?_)
        have hP : va_P (dC, dI) vwCl (mW cI cZ a (sI S 2000 0)) H := hP
        have hD : va_D A (mW cI cZ a (sI S 2000 0)) := hD
        refine lv_iload_n hx hb dX8_of_32 rfl (lv_at hl 2 rfl) ?_
        by_cases c_13_k0 : x2 = 0
        · have hok := okT hok c_13_k0
          have hZ := rsT hZ c_13_k0
          refine lv_tableIn (off := 31) (tgt := 64) hx hb dX8_of_33 (by rw [c_13_k0]; decide) (by rw [c_13_k0]; decide) (by rw [c_13_k0]; rfl) (by decide) ?_
          refine lv_aload_n hx hb dX8_of_64 rfl (lv_at hl 0 rfl) ?_
          refine va_get (D := (dC, dI)) (ci := 7) (v := .ref (a 13)) (C := RX8) (T := TX8) (N := 35) hx hb hts iX8_of_X8 hown hK hP 0 rfl rfl 20 (by decide) (hts (.fieldLink RX8 51 "RiskHouseModel" "office" "[I") (by decide +kernel)) (fun _ h9 => h9) rfl dX8_of_65 ?_
          refine lv_iload_n hx hb dX8_of_68 rfl (lv_at hl 1 rfl) ?_
          obtain ⟨h_5, hok⟩ := hok
          refine va_iald (f := (S.2 18)) hx hb hK hP 13 0 rfl rfl h_5 dX8_of_69 ?_
          exact W.iret (v := ((S.2 18) x1.toNatClampNeg)) hx hb hr (fun t ht hW => ⟨⟨((S.2 18) x1.toNatClampNeg), (sI S 2000 0), rfl, hZ, by rw [ht]; exact hP, va_K.moved hW.alike hK, hD⟩, hS.F ht⟩) hS.2.2 dX8_of_70 hlocks
        · have hok := okF hok c_13_k0
          have hZ := rsF hZ c_13_k0
          by_cases c_13_k1 : x2 = 1
          · have hok := okT hok c_13_k1
            have hZ := rsT hZ c_13_k1
            refine lv_tableIn (off := 38) (tgt := 71) hx hb dX8_of_33 (by rw [c_13_k1]; decide) (by rw [c_13_k1]; decide) (by rw [c_13_k1]; rfl) (by decide) ?_
            refine lv_aload_n hx hb dX8_of_71 rfl (lv_at hl 0 rfl) ?_
            refine va_get (D := (dC, dI)) (ci := 7) (v := .ref (a 14)) (C := RX8) (T := TX8) (N := 35) hx hb hts iX8_of_X8 hown hK hP 0 rfl rfl 21 (by decide) (hts (.fieldLink RX8 54 "RiskHouseModel" "points" "[I") (by decide +kernel)) (fun _ h9 => h9) rfl dX8_of_72 ?_
            refine lv_iload_n hx hb dX8_of_75 rfl (lv_at hl 1 rfl) ?_
            obtain ⟨h_6, hok⟩ := hok
            refine va_iald (f := (S.2 19)) hx hb hK hP 14 0 rfl rfl h_6 dX8_of_76 ?_
            exact W.iret (v := ((S.2 19) x1.toNatClampNeg)) hx hb hr (fun t ht hW => ⟨⟨((S.2 19) x1.toNatClampNeg), (sI S 2000 0), rfl, hZ, by rw [ht]; exact hP, va_K.moved hW.alike hK, hD⟩, hS.F ht⟩) hS.2.2 dX8_of_77 hlocks
          · have hok := okF hok c_13_k1
            have hZ := rsF hZ c_13_k1
            by_cases c_13_k2 : x2 = 2
            · have hok := okT hok c_13_k2
              have hZ := rsT hZ c_13_k2
              refine lv_tableIn (off := 45) (tgt := 78) hx hb dX8_of_33 (by rw [c_13_k2]; decide) (by rw [c_13_k2]; decide) (by rw [c_13_k2]; rfl) (by decide) ?_
              refine lv_aload_n hx hb dX8_of_78 rfl (lv_at hl 0 rfl) ?_
              refine va_get (D := (dC, dI)) (ci := 7) (v := .ref (a 17)) (C := RX8) (T := TX8) (N := 35) hx hb hts iX8_of_X8 hown hK hP 0 rfl rfl 24 (by decide) (hts (.fieldLink RX8 63 "RiskHouseModel" "decided" "[Z") (by decide +kernel)) (fun _ h9 => h9) rfl dX8_of_79 ?_
              refine lv_iload_n hx hb dX8_of_82 rfl (lv_at hl 1 rfl) ?_
              obtain ⟨h_7, hok⟩ := hok
              refine va_zald (f := (S.2 22)) hx hb hK hP 17 1 rfl rfl h_7 dX8_of_83 ?_
              refine lv_if_eq (tgt := 96) hx hb dX8_of_84 (by decide) (fun c_8 => ?_) (fun c_8 => ?_)
              · have hok := okT hok c_8
                have hZ := rsT hZ c_8
                refine lv_iconst (v := (-1)) hx hb dX8_of_96 (by decide) ?_
                exact W.iret (v := (-1)) hx hb hr (fun t ht hW => ⟨⟨(-1), (sI S 2000 0), rfl, hZ, by rw [ht]; exact hP, va_K.moved hW.alike hK, hD⟩, hS.F ht⟩) hS.2.2 dX8_of_97 hlocks
              · have hok := okF hok c_8
                have hZ := rsF hZ c_8
                refine lv_aload_n hx hb dX8_of_87 rfl (lv_at hl 0 rfl) ?_
                refine va_get (D := (dC, dI)) (ci := 7) (v := .ref (a 15)) (C := RX8) (T := TX8) (N := 35) hx hb hts iX8_of_X8 hown hK hP 0 rfl rfl 22 (by decide) (hts (.fieldLink RX8 57 "RiskHouseModel" "path" "[I") (by decide +kernel)) (fun _ h9 => h9) rfl dX8_of_88 ?_
                refine lv_iload_n hx hb dX8_of_91 rfl (lv_at hl 1 rfl) ?_
                obtain ⟨h_9, hok⟩ := hok
                refine va_iald (f := (S.2 20)) hx hb hK hP 15 0 rfl rfl h_9 dX8_of_92 ?_
                refine lv_goto (tgt := 97) hx hb dX8_of_93 (by decide) ?_
                exact W.iret (v := ((S.2 20) x1.toNatClampNeg)) hx hb hr (fun t ht hW => ⟨⟨((S.2 20) x1.toNatClampNeg), (sI S 2000 0), rfl, hZ, by rw [ht]; exact hP, va_K.moved hW.alike hK, hD⟩, hS.F ht⟩) hS.2.2 dX8_of_97 hlocks
            · have hok := okF hok c_13_k2
              have hZ := rsF hZ c_13_k2
              by_cases c_13_k3 : x2 = 3
              · have hok := okT hok c_13_k3
                have hZ := rsT hZ c_13_k3
                refine lv_tableIn (off := 65) (tgt := 98) hx hb dX8_of_33 (by rw [c_13_k3]; decide) (by rw [c_13_k3]; decide) (by rw [c_13_k3]; rfl) (by decide) ?_
                refine lv_aload_n hx hb dX8_of_98 rfl (lv_at hl 0 rfl) ?_
                refine va_get (D := (dC, dI)) (ci := 7) (v := .ref (a 16)) (C := RX8) (T := TX8) (N := 35) hx hb hts iX8_of_X8 hown hK hP 0 rfl rfl 23 (by decide) (hts (.fieldLink RX8 60 "RiskHouseModel" "byChance" "[Z") (by decide +kernel)) (fun _ h9 => h9) rfl dX8_of_99 ?_
                refine lv_iload_n hx hb dX8_of_102 rfl (lv_at hl 1 rfl) ?_
                obtain ⟨h_10, hok⟩ := hok
                refine va_zald (f := (S.2 21)) hx hb hK hP 16 1 rfl rfl h_10 dX8_of_103 ?_
                refine lv_if_eq (tgt := 111) hx hb dX8_of_104 (by decide) (fun c_11 => ?_) (fun c_11 => ?_)
                · have hok := okT hok c_11
                  have hZ := rsT hZ c_11
                  refine lv_iconst (v := 0) hx hb dX8_of_111 (by decide) ?_
                  exact W.iret (v := 0) hx hb hr (fun t ht hW => ⟨⟨0, (sI S 2000 0), rfl, hZ, by rw [ht]; exact hP, va_K.moved hW.alike hK, hD⟩, hS.F ht⟩) hS.2.2 dX8_of_112 hlocks
                · have hok := okF hok c_11
                  have hZ := rsF hZ c_11
                  refine lv_iconst (v := 1) hx hb dX8_of_107 (by decide) ?_
                  refine lv_goto (tgt := 112) hx hb dX8_of_108 (by decide) ?_
                  exact W.iret (v := 1) hx hb hr (fun t ht hW => ⟨⟨1, (sI S 2000 0), rfl, hZ, by rw [ht]; exact hP, va_K.moved hW.alike hK, hD⟩, hS.F ht⟩) hS.2.2 dX8_of_112 hlocks
              · have hok := okF hok c_13_k3
                have hZ := rsF hZ c_13_k3
                refine lv_tableOut (tgt := 113) hx hb dX8_of_33 (by have q0 := lv_neT (a := 0) c_13_k0 (by decide); have q1 := lv_neT (a := 1) c_13_k1 (by decide); have q2 := lv_neT (a := 2) c_13_k2 (by decide); have q3 := lv_neT (a := 3) c_13_k3 (by decide); omega) (by decide) ?_
                refine lv_aload_n hx hb dX8_of_113 rfl (lv_at hl 0 rfl) ?_
                refine va_get (D := (dC, dI)) (ci := 7) (v := .ref (a 18)) (C := RX8) (T := TX8) (N := 35) hx hb hts iX8_of_X8 hown hK hP 0 rfl rfl 25 (by decide) (hts (.fieldLink RX8 66 "RiskHouseModel" "badRules" "[I") (by decide +kernel)) (fun _ h9 => h9) rfl dX8_of_114 ?_
                refine lv_iload_n hx hb dX8_of_117 rfl (lv_at hl 1 rfl) ?_
                obtain ⟨h_12, hok⟩ := hok
                refine va_iald (f := (S.2 23)) hx hb hK hP 18 0 rfl rfl h_12 dX8_of_118 ?_
                exact W.iret (v := ((S.2 23) x1.toNatClampNeg)) hx hb hr (fun t ht hW => ⟨⟨((S.2 23) x1.toNatClampNeg), (sI S 2000 0), rfl, hZ, by rw [ht]; exact hP, va_K.moved hW.alike hK, hD⟩, hS.F ht⟩) hS.2.2 dX8_of_119 hlocks
      · have hok := okT hok c_4
        have hZ := rsT hZ c_4
        exact w_X8_of_21 C0 hK hA Z S hok hZ _ _ hP hD hS _ (lv_sub hl [0] rfl)
set_option maxHeartbeats 4000000 in
set_option maxRecDepth 100000 in
theorem c_X8_of (l : Launch) (dC : Nat → ClassId) (dI : Nat → Nat → Nat) (cI cZ : ClassId) (a : Nat → Nat) (sz : Nat) (S : St) (x1 : Int32) (x2 : Int32) (hok : ok_X8_of S x1 x2) : Met l yX8_of wsX8_of rm_X8_of (va_Pc [.ref (a 0), .int x1, .int x2] (mWP dC dI cI cZ a sz S)) (va_Qi (fun (r : Int32) (u : St) => (r, u) = rs_X8_of S x1 x2) (mWB dC dI cI cZ a (va_A (mW cI cZ a S) sz)) (va_A (mW cI cZ a S) sz)) 0 0 (va_A (mW cI cZ a S) sz) := by
  refine Met.ofW (cc := cX8_of) (maxL := 3) (ret := (some .int)) (by decide) rfl ?_
  intro p e s m args below meth c s₁ B hml hv
  obtain ⟨rfl, hsz, hP, hK, hD0⟩ := hv
  subst hsz
  have hD := hD0.self (sz := s.heap.size)
  have hl := lv_entry ([.ref (a 0), .int x1, .int x2]) (n := 3) (Nat.le_of_ble_eq_true rfl)
  rw [lg_entry_eq]
  generalize (lg_sl ([.ref (a 0), .int x1, .int x2]) ++ List.replicate (3 - (lg_sl ([.ref (a 0), .int x1, .int x2])).length) Slot.unset).toArray = ls at hl ⊢
  have hl : lv_has ls 3 [(0, .ref (a 0)), (1, .int x1), (2, .int x2)] := hl
  exact w_X8_of ⟨B.exec, B.bytes, B.returns, hml, findClass_of_methodNamed B.named, atoms_spec (ws := wsX8_of) B.pre, B.notSynchronized⟩ hK (fun q h => Or.inr h) _ S x1 x2 hok rfl _ _ hP hD va_S.rf ls hl
abbrev rm_X8_failed : Room := { frames := 1, cells := 0, slots := 0, locals := 22 }
theorem iX8_failed_X8 : ∀ w ∈ wsX80, w ∈ wsX8_failed := by decide +kernel
def rs_X8_failed_26 (S : St) (z0 : Int32) : Int32 × St := (z0, S)
def ok_X8_failed_26 (S : St) (z0 : Int32) : Prop := True
set_option maxHeartbeats 4000000 in
set_option maxRecDepth 100000 in
theorem w_X8_failed_26 {p : Program} {l : Launch} {e : Env} {s : State} {m : MethodId} {args : Array Value} {below : List Frame} {meth : Method} {c : Code} {dC : Nat → ClassId} {dI : Nat → Nat → Nat} {cI cZ : ClassId} {a : Nat → Nat} {A : Nat → Prop} (C0 : Cx p s m args meth c RX8 cX8_failed (some .int) 3 wsX8_failed) (hK : va_K (dC, dI) vwCl (tI cI cZ) s) (hA : ∀ q, s.heap.size ≤ q → A q) (Z : Int32 × St) (S : St) (z0 : Int32) (hok : ok_X8_failed_26 S z0) (hZ : rs_X8_failed_26 S z0 = Z) (H : Heap) (locs : List Loc) (hP : va_P (dC, dI) vwCl (mW cI cZ a S) H) (hD : va_D A (mW cI cZ a S)) (hS : va_S A s.heap H locs) (ls : Array Slot) (hl : lv_has ls 3 []) : W p l e rm_X8_failed s m args below meth c H locs 0 0 (MQ below (va_Qi (fun (r : Int32) (u : St) => (r, u) = Z) (mWB dC dI cI cZ a A) A) args s 0 0 A) (F0 m 26 ls [.int z0]) := by
  obtain ⟨hx, hb, hr, hml, hown, hts, hlocks⟩ := id C0
  rw [ok_X8_failed_26] at hok
  rw [rs_X8_failed_26] at hZ
  exact W.iret (v := z0) hx hb hr (fun t ht hW => ⟨⟨z0, S, rfl, hZ, by rw [ht]; exact hP, va_K.moved hW.alike hK, hD⟩, hS.F ht⟩) hS.2.2 dX8_failed_26 hlocks
def rs_X8_failed_21 (S : St)  : Int32 × St := (rs_X8_failed_26 (rs_X8_refuse S 1).2 ((rs_X8_refuse S 1).1))
def ok_X8_failed_21 (S : St)  : Prop := ((ok_X8_refuse S 1) ∧ ok_X8_failed_26 (rs_X8_refuse S 1).2 ((rs_X8_refuse S 1).1))
set_option maxHeartbeats 4000000 in
set_option maxRecDepth 100000 in
theorem w_X8_failed_21 {p : Program} {l : Launch} {e : Env} {s : State} {m : MethodId} {args : Array Value} {below : List Frame} {meth : Method} {c : Code} {dC : Nat → ClassId} {dI : Nat → Nat → Nat} {cI cZ : ClassId} {a : Nat → Nat} {A : Nat → Prop} (C0 : Cx p s m args meth c RX8 cX8_failed (some .int) 3 wsX8_failed) (hK : va_K (dC, dI) vwCl (tI cI cZ) s) (hA : ∀ q, s.heap.size ≤ q → A q) (Z : Int32 × St) (S : St)  (hok : ok_X8_failed_21 S) (hZ : rs_X8_failed_21 S = Z) (H : Heap) (locs : List Loc) (hP : va_P (dC, dI) vwCl (mW cI cZ a S) H) (hD : va_D A (mW cI cZ a S)) (hS : va_S A s.heap H locs) (ls : Array Slot) (hl : lv_has ls 3 [(0, .ref (a 0))]) : W p l e rm_X8_failed s m args below meth c H locs 0 0 (MQ below (va_Qi (fun (r : Int32) (u : St) => (r, u) = Z) (mWB dC dI cI cZ a A) A) args s 0 0 A) (F0 m 21 ls []) := by
  obtain ⟨hx, hb, hr, hml, hown, hts, hlocks⟩ := id C0
  rw [ok_X8_failed_21] at hok
  rw [rs_X8_failed_21] at hZ
  refine lv_aload_n hx hb dX8_failed_21 rfl (lv_at hl 0 rfl) ?_
  refine lv_iconst (v := 1) hx hb dX8_failed_22 (by decide) ?_
  obtain ⟨k_1, hok⟩ := hok
  have hFc := wFw (w := mW cI cZ a S) hD hS hA
  refine va_calli (va_runV (As := [.int 1]) (rest := []) ⟨hx, hb, hml, hown, hts⟩ (c_X8_refuse l dC dI cI cZ a H.size S 1 k_1) (cwV 1 hts gX8_failed_X8_refuse rfl rfl rfl (by decide +kernel) ⟨Nat.le_of_ble_eq_true rfl, Nat.le_of_ble_eq_true rfl⟩) ⟨wBl, va_recv hK hP (ci := 7) (q0 := 0) rfl rfl, fun U hU hW => ⟨rfl, by rw [hU], by rw [hU]; exact hP, va_K.moved hW.alike hK, hD.weaken (fun _ _ _ _ => trivial)⟩⟩ rfl rfl hl.1 rfl (lv_room (Nat.le_of_ble_eq_true rfl)) dX8_failed_23 ⟨Nat.zero_le _, Nat.zero_le _⟩) hS (fun q _ h => hFc q h) hFc (fun r u t H1 locs ht hvm hw hB hz1 hk1 hS => ?_)
  obtain ⟨hP, hD⟩ := wJn ht hFc hB.1 hB.2.2
  have e1 : r = (rs_X8_refuse S 1).1 := congrArg Prod.fst hw
  have e2 : u = (rs_X8_refuse S 1).2 := congrArg Prod.snd hw
  rw [e1]
  rw [e2] at hP hD
  generalize H1 = H at hP hS ⊢
  exact w_X8_failed_26 C0 hK hA Z (rs_X8_refuse S 1).2 ((rs_X8_refuse S 1).1) hok hZ _ _ hP hD hS _ (lv_sub hl [] rfl)
def rs_X8_failed (S : St) (x1 : Int32) (x2 : Int32) : Int32 × St := (if x1 < 0 then (rs_X8_failed_21 S) else (if (S.1 2001) ≤ x1 then (rs_X8_failed_21 S) else (if (rs_X8_in x2 0 3) = 0 then (rs_X8_failed_21 S) else (if x2 = 0 then (((S.2 30) x1.toNatClampNeg), (sI S 2000 0)) else (if x2 = 1 then (((S.2 31) x1.toNatClampNeg), (sI S 2000 0)) else (if x2 = 2 then (((S.2 32) x1.toNatClampNeg), (sI S 2000 0)) else (((S.2 33) x1.toNatClampNeg), (sI S 2000 0))))))))
def ok_X8_failed (S : St) (x1 : Int32) (x2 : Int32) : Prop := (if x1 < 0 then ok_X8_failed_21 S else (if (S.1 2001) ≤ x1 then ok_X8_failed_21 S else ((ok_X8_in x2 0 3) ∧ (if (rs_X8_in x2 0 3) = 0 then ok_X8_failed_21 S else (if x2 = 0 then ((vp_in x1 60) ∧ True) else (if x2 = 1 then ((vp_in x1 60) ∧ True) else (if x2 = 2 then ((vp_in x1 60) ∧ True) else ((vp_in x1 60) ∧ True))))))))
set_option maxHeartbeats 4000000 in
set_option maxRecDepth 100000 in
theorem w_X8_failed {p : Program} {l : Launch} {e : Env} {s : State} {m : MethodId} {args : Array Value} {below : List Frame} {meth : Method} {c : Code} {dC : Nat → ClassId} {dI : Nat → Nat → Nat} {cI cZ : ClassId} {a : Nat → Nat} {A : Nat → Prop} (C0 : Cx p s m args meth c RX8 cX8_failed (some .int) 3 wsX8_failed) (hK : va_K (dC, dI) vwCl (tI cI cZ) s) (hA : ∀ q, s.heap.size ≤ q → A q) (Z : Int32 × St) (S : St) (x1 : Int32) (x2 : Int32) (hok : ok_X8_failed S x1 x2) (hZ : rs_X8_failed S x1 x2 = Z) (H : Heap) (locs : List Loc) (hP : va_P (dC, dI) vwCl (mW cI cZ a S) H) (hD : va_D A (mW cI cZ a S)) (hS : va_S A s.heap H locs) (ls : Array Slot) (hl : lv_has ls 3 [(0, .ref (a 0)), (1, .int x1), (2, .int x2)]) : W p l e rm_X8_failed s m args below meth c H locs 0 0 (MQ below (va_Qi (fun (r : Int32) (u : St) => (r, u) = Z) (mWB dC dI cI cZ a A) A) args s 0 0 A) (F0 m 0 ls []) := by
  obtain ⟨hx, hb, hr, hml, hown, hts, hlocks⟩ := id C0
  rw [ok_X8_failed] at hok
  rw [rs_X8_failed] at hZ
  refine lv_iload_n hx hb dX8_failed_0 rfl (lv_at hl 1 rfl) ?_
  refine lv_if_lt (tgt := 21) hx hb dX8_failed_1 (by decide) (fun c_1 => ?_) (fun c_1 => ?_)
  · have hok := okT hok c_1
    have hZ := rsT hZ c_1
    exact w_X8_failed_21 C0 hK hA Z S hok hZ _ _ hP hD hS _ (lv_sub hl [0] rfl)
  · have hok := okF hok c_1
    have hZ := rsF hZ c_1
    refine lv_iload_n hx hb dX8_failed_4 rfl (lv_at hl 1 rfl) ?_
    refine lv_aload_n hx hb dX8_failed_5 rfl (lv_at hl 0 rfl) ?_
    refine va_get (D := (dC, dI)) (ci := 7) (v := .int (S.1 2001)) (C := RX8) (T := TX8) (N := 35) hx hb hts iX8_failed_X8 hown hK hP 0 rfl rfl 26 (by decide) (hts (.fieldLink RX8 139 "RiskHouseModel" "failures" "I") (by decide +kernel)) (fun _ h9 => h9) rfl dX8_failed_6 ?_
    refine lv_icmp_ge (tgt := 21) hx hb dX8_failed_9 (by decide) (fun c_2 => ?_) (fun c_2 => ?_)
    · have hok := okT hok c_2
      have hZ := rsT hZ c_2
      exact w_X8_failed_21 C0 hK hA Z S hok hZ _ _ hP hD hS _ (lv_sub hl [0] rfl)
    · have hok := okF hok c_2
      have hZ := rsF hZ c_2
      refine lv_iload_n hx hb dX8_failed_12 rfl (lv_at hl 2 rfl) ?_
      refine lv_iconst (v := 0) hx hb dX8_failed_13 (by decide) ?_
      refine lv_iconst (v := 3) hx hb dX8_failed_14 (by decide) ?_
      obtain ⟨k_3, hok⟩ := hok
      have hFc := wFr hS hA
      refine va_calli (va_runS (As := [.int x2, .int 0, .int 3]) (rest := []) ⟨hx, hb, hml, hown, hts⟩ (c_X8_in l H.size x2 0 3 k_3) (va_cwS 3 hts gX8_failed_X8_in rfl rfl rfl (by decide +kernel) ⟨Nat.le_of_ble_eq_true rfl, Nat.le_of_ble_eq_true rfl⟩) ⟨fun a9 U g9 mk9 q9 => q9, fun U hU hW => ⟨rfl, congrArg Array.size hU⟩⟩ rfl rfl hl.1 rfl (lv_room (Nat.le_of_ble_eq_true rfl)) dX8_failed_15 ⟨Nat.zero_le _, Nat.zero_le _⟩) hS (fun q _ h => hFc q h) hFc (fun r u t H1 locs ht hvm hw hB hz1 hk1 hS => ?_)
      have hP := wKp hP hk1
      subst hw
      generalize H1 = H at hP hS ⊢
      refine lv_if_ne (tgt := 27) hx hb dX8_failed_18 (by decide) (fun c_4 => ?_) (fun c_4 => ?_)
      · have hok := okF hok c_4
        have hZ := rsF hZ c_4
        refine lv_aload_n hx hb dX8_failed_27 rfl (lv_at hl 0 rfl) ?_
        refine lv_iconst (v := 0) hx hb dX8_failed_28 (by decide) ?_
        refine va_put (D := (dC, dI)) (ci := 7) (v := .int 0) (ty := .int) (C := RX8) (T := TX8) (N := 35) hx hb hts iX8_failed_X8 tyX8 tyX8_ok nmX8 hown hK hP hD hS 0 rfl rfl 0 (by decide) (hts (.fieldLink RX8 88 "RiskHouseModel" "thrown" "I") (by decide +kernel)) (fun _ h9 => h9) rfl (by decide +kernel) rfl rfl (Nat.le_of_ble_eq_true rfl) dX8_failed_29 (fun H locs hP hD hS => ?_)
        have hP : va_P (dC, dI) vwCl (mW cI cZ a (sI S 2000 0)) H := hP
        have hD : va_D A (mW cI cZ a (sI S 2000 0)) := hD
        refine lv_iload_n hx hb dX8_failed_32 rfl (lv_at hl 2 rfl) ?_
        refine lv_if_ne (tgt := 45) hx hb dX8_failed_33 (by decide) (fun c_5 => ?_) (fun c_5 => ?_)
        · have hok := okF hok c_5
          have hZ := rsF hZ c_5
          refine lv_iload_n hx hb dX8_failed_45 rfl (lv_at hl 2 rfl) ?_
          refine lv_iconst (v := 1) hx hb dX8_failed_46 (by decide) ?_
          refine lv_icmp_ne (tgt := 59) hx hb dX8_failed_47 (by decide) (fun c_6 => ?_) (fun c_6 => ?_)
          · have hok := okF hok c_6
            have hZ := rsF hZ c_6
            refine lv_iload_n hx hb dX8_failed_59 rfl (lv_at hl 2 rfl) ?_
            refine lv_iconst (v := 2) hx hb dX8_failed_60 (by decide) ?_
            refine lv_icmp_ne (tgt := 73) hx hb dX8_failed_61 (by decide) (fun c_7 => ?_) (fun c_7 => ?_)
            · have hok := okF hok c_7
              have hZ := rsF hZ c_7
              refine lv_aload_n hx hb dX8_failed_73 rfl (lv_at hl 0 rfl) ?_
              refine va_get (D := (dC, dI)) (ci := 7) (v := .ref (a 22)) (C := RX8) (T := TX8) (N := 35) hx hb hts iX8_failed_X8 hown hK hP 0 rfl rfl 30 (by decide) (hts (.fieldLink RX8 78 "RiskHouseModel" "failedIn" "[I") (by decide +kernel)) (fun _ h9 => h9) rfl dX8_failed_74 ?_
              refine lv_iload_n hx hb dX8_failed_77 rfl (lv_at hl 1 rfl) ?_
              obtain ⟨h_8, hok⟩ := hok
              refine va_iald (f := (S.2 33)) hx hb hK hP 22 0 rfl rfl h_8 dX8_failed_78 ?_
              exact W.iret (v := ((S.2 33) x1.toNatClampNeg)) hx hb hr (fun t ht hW => ⟨⟨((S.2 33) x1.toNatClampNeg), (sI S 2000 0), rfl, hZ, by rw [ht]; exact hP, va_K.moved hW.alike hK, hD⟩, hS.F ht⟩) hS.2.2 dX8_failed_79 hlocks
            · have hok := okT hok c_7
              have hZ := rsT hZ c_7
              refine lv_aload_n hx hb dX8_failed_64 rfl (lv_at hl 0 rfl) ?_
              refine va_get (D := (dC, dI)) (ci := 7) (v := .ref (a 21)) (C := RX8) (T := TX8) (N := 35) hx hb hts iX8_failed_X8 hown hK hP 0 rfl rfl 29 (by decide) (hts (.fieldLink RX8 75 "RiskHouseModel" "failedAt" "[I") (by decide +kernel)) (fun _ h9 => h9) rfl dX8_failed_65 ?_
              refine lv_iload_n hx hb dX8_failed_68 rfl (lv_at hl 1 rfl) ?_
              obtain ⟨h_9, hok⟩ := hok
              refine va_iald (f := (S.2 32)) hx hb hK hP 21 0 rfl rfl h_9 dX8_failed_69 ?_
              refine lv_goto (tgt := 79) hx hb dX8_failed_70 (by decide) ?_
              exact W.iret (v := ((S.2 32) x1.toNatClampNeg)) hx hb hr (fun t ht hW => ⟨⟨((S.2 32) x1.toNatClampNeg), (sI S 2000 0), rfl, hZ, by rw [ht]; exact hP, va_K.moved hW.alike hK, hD⟩, hS.F ht⟩) hS.2.2 dX8_failed_79 hlocks
          · have hok := okT hok c_6
            have hZ := rsT hZ c_6
            refine lv_aload_n hx hb dX8_failed_50 rfl (lv_at hl 0 rfl) ?_
            refine va_get (D := (dC, dI)) (ci := 7) (v := .ref (a 20)) (C := RX8) (T := TX8) (N := 35) hx hb hts iX8_failed_X8 hown hK hP 0 rfl rfl 28 (by decide) (hts (.fieldLink RX8 72 "RiskHouseModel" "failedHow" "[I") (by decide +kernel)) (fun _ h9 => h9) rfl dX8_failed_51 ?_
            refine lv_iload_n hx hb dX8_failed_54 rfl (lv_at hl 1 rfl) ?_
            obtain ⟨h_10, hok⟩ := hok
            refine va_iald (f := (S.2 31)) hx hb hK hP 20 0 rfl rfl h_10 dX8_failed_55 ?_
            refine lv_goto (tgt := 79) hx hb dX8_failed_56 (by decide) ?_
            exact W.iret (v := ((S.2 31) x1.toNatClampNeg)) hx hb hr (fun t ht hW => ⟨⟨((S.2 31) x1.toNatClampNeg), (sI S 2000 0), rfl, hZ, by rw [ht]; exact hP, va_K.moved hW.alike hK, hD⟩, hS.F ht⟩) hS.2.2 dX8_failed_79 hlocks
        · have hok := okT hok c_5
          have hZ := rsT hZ c_5
          refine lv_aload_n hx hb dX8_failed_36 rfl (lv_at hl 0 rfl) ?_
          refine va_get (D := (dC, dI)) (ci := 7) (v := .ref (a 19)) (C := RX8) (T := TX8) (N := 35) hx hb hts iX8_failed_X8 hown hK hP 0 rfl rfl 27 (by decide) (hts (.fieldLink RX8 69 "RiskHouseModel" "failedRule" "[I") (by decide +kernel)) (fun _ h9 => h9) rfl dX8_failed_37 ?_
          refine lv_iload_n hx hb dX8_failed_40 rfl (lv_at hl 1 rfl) ?_
          obtain ⟨h_11, hok⟩ := hok
          refine va_iald (f := (S.2 30)) hx hb hK hP 19 0 rfl rfl h_11 dX8_failed_41 ?_
          refine lv_goto (tgt := 79) hx hb dX8_failed_42 (by decide) ?_
          exact W.iret (v := ((S.2 30) x1.toNatClampNeg)) hx hb hr (fun t ht hW => ⟨⟨((S.2 30) x1.toNatClampNeg), (sI S 2000 0), rfl, hZ, by rw [ht]; exact hP, va_K.moved hW.alike hK, hD⟩, hS.F ht⟩) hS.2.2 dX8_failed_79 hlocks
      · have hok := okT hok c_4
        have hZ := rsT hZ c_4
        exact w_X8_failed_21 C0 hK hA Z S hok hZ _ _ hP hD hS _ (lv_sub hl [0] rfl)
set_option maxHeartbeats 4000000 in
set_option maxRecDepth 100000 in
theorem c_X8_failed (l : Launch) (dC : Nat → ClassId) (dI : Nat → Nat → Nat) (cI cZ : ClassId) (a : Nat → Nat) (sz : Nat) (S : St) (x1 : Int32) (x2 : Int32) (hok : ok_X8_failed S x1 x2) : Met l yX8_failed wsX8_failed rm_X8_failed (va_Pc [.ref (a 0), .int x1, .int x2] (mWP dC dI cI cZ a sz S)) (va_Qi (fun (r : Int32) (u : St) => (r, u) = rs_X8_failed S x1 x2) (mWB dC dI cI cZ a (va_A (mW cI cZ a S) sz)) (va_A (mW cI cZ a S) sz)) 0 0 (va_A (mW cI cZ a S) sz) := by
  refine Met.ofW (cc := cX8_failed) (maxL := 3) (ret := (some .int)) (by decide) rfl ?_
  intro p e s m args below meth c s₁ B hml hv
  obtain ⟨rfl, hsz, hP, hK, hD0⟩ := hv
  subst hsz
  have hD := hD0.self (sz := s.heap.size)
  have hl := lv_entry ([.ref (a 0), .int x1, .int x2]) (n := 3) (Nat.le_of_ble_eq_true rfl)
  rw [lg_entry_eq]
  generalize (lg_sl ([.ref (a 0), .int x1, .int x2]) ++ List.replicate (3 - (lg_sl ([.ref (a 0), .int x1, .int x2])).length) Slot.unset).toArray = ls at hl ⊢
  have hl : lv_has ls 3 [(0, .ref (a 0)), (1, .int x1), (2, .int x2)] := hl
  exact w_X8_failed ⟨B.exec, B.bytes, B.returns, hml, findClass_of_methodNamed B.named, atoms_spec (ws := wsX8_failed) B.pre, B.notSynchronized⟩ hK (fun q h => Or.inr h) _ S x1 x2 hok rfl _ _ hP hD va_S.rf ls hl
abbrev rm_X8_edition : Room := { frames := 1, cells := 0, slots := 0, locals := 23 }
theorem iX8_edition_X8 : ∀ w ∈ wsX80, w ∈ wsX8_edition := by decide +kernel
def rs_X8_edition_21 (S : St) (z0 : Int32) : Int32 × St := (z0, S)
def ok_X8_edition_21 (S : St) (z0 : Int32) : Prop := True
set_option maxHeartbeats 4000000 in
set_option maxRecDepth 100000 in
theorem w_X8_edition_21 {p : Program} {l : Launch} {e : Env} {s : State} {m : MethodId} {args : Array Value} {below : List Frame} {meth : Method} {c : Code} {dC : Nat → ClassId} {dI : Nat → Nat → Nat} {cI cZ : ClassId} {a : Nat → Nat} {A : Nat → Prop} (C0 : Cx p s m args meth c RX8 cX8_edition (some .int) 3 wsX8_edition) (hK : va_K (dC, dI) vwCl (tI cI cZ) s) (hA : ∀ q, s.heap.size ≤ q → A q) (Z : Int32 × St) (S : St) (z0 : Int32) (hok : ok_X8_edition_21 S z0) (hZ : rs_X8_edition_21 S z0 = Z) (H : Heap) (locs : List Loc) (hP : va_P (dC, dI) vwCl (mW cI cZ a S) H) (hD : va_D A (mW cI cZ a S)) (hS : va_S A s.heap H locs) (ls : Array Slot) (hl : lv_has ls 3 []) : W p l e rm_X8_edition s m args below meth c H locs 0 0 (MQ below (va_Qi (fun (r : Int32) (u : St) => (r, u) = Z) (mWB dC dI cI cZ a A) A) args s 0 0 A) (F0 m 21 ls [.int z0]) := by
  obtain ⟨hx, hb, hr, hml, hown, hts, hlocks⟩ := id C0
  rw [ok_X8_edition_21] at hok
  rw [rs_X8_edition_21] at hZ
  exact W.iret (v := z0) hx hb hr (fun t ht hW => ⟨⟨z0, S, rfl, hZ, by rw [ht]; exact hP, va_K.moved hW.alike hK, hD⟩, hS.F ht⟩) hS.2.2 dX8_edition_21 hlocks
def rs_X8_edition_16 (S : St)  : Int32 × St := (rs_X8_edition_21 (rs_X8_refuse S 1).2 ((rs_X8_refuse S 1).1))
def ok_X8_edition_16 (S : St)  : Prop := ((ok_X8_refuse S 1) ∧ ok_X8_edition_21 (rs_X8_refuse S 1).2 ((rs_X8_refuse S 1).1))
set_option maxHeartbeats 4000000 in
set_option maxRecDepth 100000 in
theorem w_X8_edition_16 {p : Program} {l : Launch} {e : Env} {s : State} {m : MethodId} {args : Array Value} {below : List Frame} {meth : Method} {c : Code} {dC : Nat → ClassId} {dI : Nat → Nat → Nat} {cI cZ : ClassId} {a : Nat → Nat} {A : Nat → Prop} (C0 : Cx p s m args meth c RX8 cX8_edition (some .int) 3 wsX8_edition) (hK : va_K (dC, dI) vwCl (tI cI cZ) s) (hA : ∀ q, s.heap.size ≤ q → A q) (Z : Int32 × St) (S : St)  (hok : ok_X8_edition_16 S) (hZ : rs_X8_edition_16 S = Z) (H : Heap) (locs : List Loc) (hP : va_P (dC, dI) vwCl (mW cI cZ a S) H) (hD : va_D A (mW cI cZ a S)) (hS : va_S A s.heap H locs) (ls : Array Slot) (hl : lv_has ls 3 [(0, .ref (a 0))]) : W p l e rm_X8_edition s m args below meth c H locs 0 0 (MQ below (va_Qi (fun (r : Int32) (u : St) => (r, u) = Z) (mWB dC dI cI cZ a A) A) args s 0 0 A) (F0 m 16 ls []) := by
  obtain ⟨hx, hb, hr, hml, hown, hts, hlocks⟩ := id C0
  rw [ok_X8_edition_16] at hok
  rw [rs_X8_edition_16] at hZ
  refine lv_aload_n hx hb dX8_edition_16 rfl (lv_at hl 0 rfl) ?_
  refine lv_iconst (v := 1) hx hb dX8_edition_17 (by decide) ?_
  obtain ⟨k_1, hok⟩ := hok
  have hFc := wFw (w := mW cI cZ a S) hD hS hA
  refine va_calli (va_runV (As := [.int 1]) (rest := []) ⟨hx, hb, hml, hown, hts⟩ (c_X8_refuse l dC dI cI cZ a H.size S 1 k_1) (cwV 1 hts gX8_edition_X8_refuse rfl rfl rfl (by decide +kernel) ⟨Nat.le_of_ble_eq_true rfl, Nat.le_of_ble_eq_true rfl⟩) ⟨wBl, va_recv hK hP (ci := 7) (q0 := 0) rfl rfl, fun U hU hW => ⟨rfl, by rw [hU], by rw [hU]; exact hP, va_K.moved hW.alike hK, hD.weaken (fun _ _ _ _ => trivial)⟩⟩ rfl rfl hl.1 rfl (lv_room (Nat.le_of_ble_eq_true rfl)) dX8_edition_18 ⟨Nat.zero_le _, Nat.zero_le _⟩) hS (fun q _ h => hFc q h) hFc (fun r u t H1 locs ht hvm hw hB hz1 hk1 hS => ?_)
  obtain ⟨hP, hD⟩ := wJn ht hFc hB.1 hB.2.2
  have e1 : r = (rs_X8_refuse S 1).1 := congrArg Prod.fst hw
  have e2 : u = (rs_X8_refuse S 1).2 := congrArg Prod.snd hw
  rw [e1]
  rw [e2] at hP hD
  generalize H1 = H at hP hS ⊢
  exact w_X8_edition_21 C0 hK hA Z (rs_X8_refuse S 1).2 ((rs_X8_refuse S 1).1) hok hZ _ _ hP hD hS _ (lv_sub hl [] rfl)
def rs_X8_edition_59 (S : St) (z0 : Int32) : Int32 × St := (z0, S)
def ok_X8_edition_59 (S : St) (z0 : Int32) : Prop := True
set_option maxHeartbeats 4000000 in
set_option maxRecDepth 100000 in
theorem w_X8_edition_59 {p : Program} {l : Launch} {e : Env} {s : State} {m : MethodId} {args : Array Value} {below : List Frame} {meth : Method} {c : Code} {dC : Nat → ClassId} {dI : Nat → Nat → Nat} {cI cZ : ClassId} {a : Nat → Nat} {A : Nat → Prop} (C0 : Cx p s m args meth c RX8 cX8_edition (some .int) 3 wsX8_edition) (hK : va_K (dC, dI) vwCl (tI cI cZ) s) (hA : ∀ q, s.heap.size ≤ q → A q) (Z : Int32 × St) (S : St) (z0 : Int32) (hok : ok_X8_edition_59 S z0) (hZ : rs_X8_edition_59 S z0 = Z) (H : Heap) (locs : List Loc) (hP : va_P (dC, dI) vwCl (mW cI cZ a S) H) (hD : va_D A (mW cI cZ a S)) (hS : va_S A s.heap H locs) (ls : Array Slot) (hl : lv_has ls 3 []) : W p l e rm_X8_edition s m args below meth c H locs 0 0 (MQ below (va_Qi (fun (r : Int32) (u : St) => (r, u) = Z) (mWB dC dI cI cZ a A) A) args s 0 0 A) (F0 m 59 ls [.int z0]) := by
  obtain ⟨hx, hb, hr, hml, hown, hts, hlocks⟩ := id C0
  rw [ok_X8_edition_59] at hok
  rw [rs_X8_edition_59] at hZ
  exact W.iret (v := z0) hx hb hr (fun t ht hW => ⟨⟨z0, S, rfl, hZ, by rw [ht]; exact hP, va_K.moved hW.alike hK, hD⟩, hS.F ht⟩) hS.2.2 dX8_edition_59 hlocks
def rs_X8_edition (S : St) (x1 : Int32) (x2 : Int32) : Int32 × St := (if (rs_X8_isFour x1) = 0 then (rs_X8_edition_16 S) else (if (rs_X8_in x2 0 2) = 0 then (rs_X8_edition_16 S) else (if x2 = 0 then (rs_X8_edition_59 (sI S 2000 0) ((S.2 12) x1.toNatClampNeg)) else (if x2 = 1 then (rs_X8_edition_59 (sI S 2000 0) ((S.2 13) x1.toNatClampNeg)) else (rs_X8_edition_59 (rs_X8_rulesOf (sI S 2000 0) x1).2 ((rs_X8_rulesOf (sI S 2000 0) x1).1))))))
def ok_X8_edition (S : St) (x1 : Int32) (x2 : Int32) : Prop := ((ok_X8_isFour x1) ∧ (if (rs_X8_isFour x1) = 0 then ok_X8_edition_16 S else ((ok_X8_in x2 0 2) ∧ (if (rs_X8_in x2 0 2) = 0 then ok_X8_edition_16 S else (if x2 = 0 then ((vp_in x1 4) ∧ ok_X8_edition_59 (sI S 2000 0) ((S.2 12) x1.toNatClampNeg)) else (if x2 = 1 then ((vp_in x1 4) ∧ ok_X8_edition_59 (sI S 2000 0) ((S.2 13) x1.toNatClampNeg)) else ((ok_X8_rulesOf (sI S 2000 0) x1) ∧ ok_X8_edition_59 (rs_X8_rulesOf (sI S 2000 0) x1).2 ((rs_X8_rulesOf (sI S 2000 0) x1).1))))))))
set_option maxHeartbeats 4000000 in
set_option maxRecDepth 100000 in
theorem w_X8_edition {p : Program} {l : Launch} {e : Env} {s : State} {m : MethodId} {args : Array Value} {below : List Frame} {meth : Method} {c : Code} {dC : Nat → ClassId} {dI : Nat → Nat → Nat} {cI cZ : ClassId} {a : Nat → Nat} {A : Nat → Prop} (C0 : Cx p s m args meth c RX8 cX8_edition (some .int) 3 wsX8_edition) (hK : va_K (dC, dI) vwCl (tI cI cZ) s) (hA : ∀ q, s.heap.size ≤ q → A q) (Z : Int32 × St) (S : St) (x1 : Int32) (x2 : Int32) (hok : ok_X8_edition S x1 x2) (hZ : rs_X8_edition S x1 x2 = Z) (H : Heap) (locs : List Loc) (hP : va_P (dC, dI) vwCl (mW cI cZ a S) H) (hD : va_D A (mW cI cZ a S)) (hS : va_S A s.heap H locs) (ls : Array Slot) (hl : lv_has ls 3 [(0, .ref (a 0)), (1, .int x1), (2, .int x2)]) : W p l e rm_X8_edition s m args below meth c H locs 0 0 (MQ below (va_Qi (fun (r : Int32) (u : St) => (r, u) = Z) (mWB dC dI cI cZ a A) A) args s 0 0 A) (F0 m 0 ls []) := by
  obtain ⟨hx, hb, hr, hml, hown, hts, hlocks⟩ := id C0
  rw [ok_X8_edition] at hok
  rw [rs_X8_edition] at hZ
  refine lv_iload_n hx hb dX8_edition_0 rfl (lv_at hl 1 rfl) ?_
  obtain ⟨k_1, hok⟩ := hok
  have hFc := wFr hS hA
  refine va_calli (va_runS (As := [.int x1]) (rest := []) ⟨hx, hb, hml, hown, hts⟩ (c_X8_isFour l H.size x1 k_1) (va_cwS 1 hts gX8_edition_X8_isFour rfl rfl rfl (by decide +kernel) ⟨Nat.le_of_ble_eq_true rfl, Nat.le_of_ble_eq_true rfl⟩) ⟨fun a9 U g9 mk9 q9 => q9, fun U hU hW => ⟨rfl, congrArg Array.size hU⟩⟩ rfl rfl hl.1 rfl (lv_room (Nat.le_of_ble_eq_true rfl)) dX8_edition_1 ⟨Nat.zero_le _, Nat.zero_le _⟩) hS (fun q _ h => hFc q h) hFc (fun r u t H1 locs ht hvm hw hB hz1 hk1 hS => ?_)
  have hP := wKp hP hk1
  subst hw
  generalize H1 = H at hP hS ⊢
  refine lv_if_eq (tgt := 16) hx hb dX8_edition_4 (by decide) (fun c_2 => ?_) (fun c_2 => ?_)
  · have hok := okT hok c_2
    have hZ := rsT hZ c_2
    exact w_X8_edition_16 C0 hK hA Z S hok hZ _ _ hP hD hS _ (lv_sub hl [0] rfl)
  · have hok := okF hok c_2
    have hZ := rsF hZ c_2
    refine lv_iload_n hx hb dX8_edition_7 rfl (lv_at hl 2 rfl) ?_
    refine lv_iconst (v := 0) hx hb dX8_edition_8 (by decide) ?_
    refine lv_iconst (v := 2) hx hb dX8_edition_9 (by decide) ?_
    obtain ⟨k_3, hok⟩ := hok
    have hFc := wFr hS hA
    refine va_calli (va_runS (As := [.int x2, .int 0, .int 2]) (rest := []) ⟨hx, hb, hml, hown, hts⟩ (c_X8_in l H.size x2 0 2 k_3) (va_cwS 3 hts gX8_edition_X8_in rfl rfl rfl (by decide +kernel) ⟨Nat.le_of_ble_eq_true rfl, Nat.le_of_ble_eq_true rfl⟩) ⟨fun a9 U g9 mk9 q9 => q9, fun U hU hW => ⟨rfl, congrArg Array.size hU⟩⟩ rfl rfl hl.1 rfl (lv_room (Nat.le_of_ble_eq_true rfl)) dX8_edition_10 ⟨Nat.zero_le _, Nat.zero_le _⟩) hS (fun q _ h => hFc q h) hFc (fun r u t H1 locs ht hvm hw hB hz1 hk1 hS => ?_)
    have hP := wKp hP hk1
    subst hw
    generalize H1 = H at hP hS ⊢
    refine lv_if_ne (tgt := 22) hx hb dX8_edition_13 (by decide) (fun c_4 => ?_) (fun c_4 => ?_)
    · have hok := okF hok c_4
      have hZ := rsF hZ c_4
      refine lv_aload_n hx hb dX8_edition_22 rfl (lv_at hl 0 rfl) ?_
      refine lv_iconst (v := 0) hx hb dX8_edition_23 (by decide) ?_
      refine va_put (D := (dC, dI)) (ci := 7) (v := .int 0) (ty := .int) (C := RX8) (T := TX8) (N := 35) hx hb hts iX8_edition_X8 tyX8 tyX8_ok nmX8 hown hK hP hD hS 0 rfl rfl 0 (by decide) (hts (.fieldLink RX8 88 "RiskHouseModel" "thrown" "I") (by decide +kernel)) (fun _ h9 => h9) rfl (by decide +kernel) rfl rfl (Nat.le_of_ble_eq_true rfl) dX8_edition_24 (fun H locs hP hD hS => ?_)
      have hP : va_P (dC, dI) vwCl (mW cI cZ a (sI S 2000 0)) H := hP
      have hD : va_D A (mW cI cZ a (sI S 2000 0)) := hD
      refine lv_iload_n hx hb dX8_edition_27 rfl (lv_at hl 2 rfl) ?_
      refine lv_if_ne (tgt := 40) hx hb dX8_edition_28 (by decide) (fun c_5 => ?_) (fun c_5 => ?_)
      · have hok := okF hok c_5
        have hZ := rsF hZ c_5
        refine lv_iload_n hx hb dX8_edition_40 rfl (lv_at hl 2 rfl) ?_
        refine lv_iconst (v := 1) hx hb dX8_edition_41 (by decide) ?_
        refine lv_icmp_ne (tgt := 54) hx hb dX8_edition_42 (by decide) (fun c_6 => ?_) (fun c_6 => ?_)
        · have hok := okF hok c_6
          have hZ := rsF hZ c_6
          refine lv_aload_n hx hb dX8_edition_54 rfl (lv_at hl 0 rfl) ?_
          refine lv_iload_n hx hb dX8_edition_55 rfl (lv_at hl 1 rfl) ?_
          obtain ⟨k_7, hok⟩ := hok
          have hFc := wFw (w := mW cI cZ a (sI S 2000 0)) hD hS hA
          refine va_calli (va_runV (As := [.int x1]) (rest := []) ⟨hx, hb, hml, hown, hts⟩ (c_X8_rulesOf l dC dI cI cZ a H.size (sI S 2000 0) x1 k_7) (cwV 1 hts gX8_edition_X8_rulesOf rfl rfl rfl (by decide +kernel) ⟨Nat.le_of_ble_eq_true rfl, Nat.le_of_ble_eq_true rfl⟩) ⟨wBl, va_recv hK hP (ci := 7) (q0 := 0) rfl rfl, fun U hU hW => ⟨rfl, by rw [hU], by rw [hU]; exact hP, va_K.moved hW.alike hK, hD.weaken (fun _ _ _ _ => trivial)⟩⟩ rfl rfl hl.1 rfl (lv_room (Nat.le_of_ble_eq_true rfl)) dX8_edition_56 ⟨Nat.zero_le _, Nat.zero_le _⟩) hS (fun q _ h => hFc q h) hFc (fun r u t H1 locs ht hvm hw hB hz1 hk1 hS => ?_)
          obtain ⟨hP, hD⟩ := wJn ht hFc hB.1 hB.2.2
          have e1 : r = (rs_X8_rulesOf (sI S 2000 0) x1).1 := congrArg Prod.fst hw
          have e2 : u = (rs_X8_rulesOf (sI S 2000 0) x1).2 := congrArg Prod.snd hw
          rw [e1]
          rw [e2] at hP hD
          generalize H1 = H at hP hS ⊢
          exact w_X8_edition_59 C0 hK hA Z (rs_X8_rulesOf (sI S 2000 0) x1).2 ((rs_X8_rulesOf (sI S 2000 0) x1).1) hok hZ _ _ hP hD hS _ (lv_sub hl [] rfl)
        · have hok := okT hok c_6
          have hZ := rsT hZ c_6
          refine lv_aload_n hx hb dX8_edition_45 rfl (lv_at hl 0 rfl) ?_
          refine va_get (D := (dC, dI)) (ci := 7) (v := .ref (a 3)) (C := RX8) (T := TX8) (N := 35) hx hb hts iX8_edition_X8 hown hK hP 0 rfl rfl 4 (by decide) (hts (.fieldLink RX8 16 "RiskHouseModel" "started" "[I") (by decide +kernel)) (fun _ h9 => h9) rfl dX8_edition_46 ?_
          refine lv_iload_n hx hb dX8_edition_49 rfl (lv_at hl 1 rfl) ?_
          obtain ⟨h_8, hok⟩ := hok
          refine va_iald (f := (S.2 13)) hx hb hK hP 3 0 rfl rfl h_8 dX8_edition_50 ?_
          refine lv_goto (tgt := 59) hx hb dX8_edition_51 (by decide) ?_
          exact w_X8_edition_59 C0 hK hA Z (sI S 2000 0) ((S.2 13) x1.toNatClampNeg) hok hZ _ _ hP hD hS _ (lv_sub hl [] rfl)
      · have hok := okT hok c_5
        have hZ := rsT hZ c_5
        refine lv_aload_n hx hb dX8_edition_31 rfl (lv_at hl 0 rfl) ?_
        refine va_get (D := (dC, dI)) (ci := 7) (v := .ref (a 2)) (C := RX8) (T := TX8) (N := 35) hx hb hts iX8_edition_X8 hown hK hP 0 rfl rfl 3 (by decide) (hts (.fieldLink RX8 13 "RiskHouseModel" "cell" "[I") (by decide +kernel)) (fun _ h9 => h9) rfl dX8_edition_32 ?_
        refine lv_iload_n hx hb dX8_edition_35 rfl (lv_at hl 1 rfl) ?_
        obtain ⟨h_9, hok⟩ := hok
        refine va_iald (f := (S.2 12)) hx hb hK hP 2 0 rfl rfl h_9 dX8_edition_36 ?_
        refine lv_goto (tgt := 59) hx hb dX8_edition_37 (by decide) ?_
        exact w_X8_edition_59 C0 hK hA Z (sI S 2000 0) ((S.2 12) x1.toNatClampNeg) hok hZ _ _ hP hD hS _ (lv_sub hl [] rfl)
    · have hok := okT hok c_4
      have hZ := rsT hZ c_4
      exact w_X8_edition_16 C0 hK hA Z S hok hZ _ _ hP hD hS _ (lv_sub hl [0] rfl)
set_option maxHeartbeats 4000000 in
set_option maxRecDepth 100000 in
theorem c_X8_edition (l : Launch) (dC : Nat → ClassId) (dI : Nat → Nat → Nat) (cI cZ : ClassId) (a : Nat → Nat) (sz : Nat) (S : St) (x1 : Int32) (x2 : Int32) (hok : ok_X8_edition S x1 x2) : Met l yX8_edition wsX8_edition rm_X8_edition (va_Pc [.ref (a 0), .int x1, .int x2] (mWP dC dI cI cZ a sz S)) (va_Qi (fun (r : Int32) (u : St) => (r, u) = rs_X8_edition S x1 x2) (mWB dC dI cI cZ a (va_A (mW cI cZ a S) sz)) (va_A (mW cI cZ a S) sz)) 0 0 (va_A (mW cI cZ a S) sz) := by
  refine Met.ofW (cc := cX8_edition) (maxL := 3) (ret := (some .int)) (by decide) rfl ?_
  intro p e s m args below meth c s₁ B hml hv
  obtain ⟨rfl, hsz, hP, hK, hD0⟩ := hv
  subst hsz
  have hD := hD0.self (sz := s.heap.size)
  have hl := lv_entry ([.ref (a 0), .int x1, .int x2]) (n := 3) (Nat.le_of_ble_eq_true rfl)
  rw [lg_entry_eq]
  generalize (lg_sl ([.ref (a 0), .int x1, .int x2]) ++ List.replicate (3 - (lg_sl ([.ref (a 0), .int x1, .int x2])).length) Slot.unset).toArray = ls at hl ⊢
  have hl : lv_has ls 3 [(0, .ref (a 0)), (1, .int x1), (2, .int x2)] := hl
  exact w_X8_edition ⟨B.exec, B.bytes, B.returns, hml, findClass_of_methodNamed B.named, atoms_spec (ws := wsX8_edition) B.pre, B.notSynchronized⟩ hK (fun q h => Or.inr h) _ S x1 x2 hok rfl _ _ hP hD va_S.rf ls hl
abbrev rm_X8_look : Room := { frames := 1, cells := 0, slots := 0, locals := 22 }
theorem iX8_look_X8 : ∀ w ∈ wsX80, w ∈ wsX8_look := by decide +kernel
def rs_X8_look_22 (S : St) (z0 : Int32) : Int32 × St := (z0, S)
def ok_X8_look_22 (S : St) (z0 : Int32) : Prop := True
set_option maxHeartbeats 4000000 in
set_option maxRecDepth 100000 in
theorem w_X8_look_22 {p : Program} {l : Launch} {e : Env} {s : State} {m : MethodId} {args : Array Value} {below : List Frame} {meth : Method} {c : Code} {dC : Nat → ClassId} {dI : Nat → Nat → Nat} {cI cZ : ClassId} {a : Nat → Nat} {A : Nat → Prop} (C0 : Cx p s m args meth c RX8 cX8_look (some .int) 3 wsX8_look) (hK : va_K (dC, dI) vwCl (tI cI cZ) s) (hA : ∀ q, s.heap.size ≤ q → A q) (Z : Int32 × St) (S : St) (z0 : Int32) (hok : ok_X8_look_22 S z0) (hZ : rs_X8_look_22 S z0 = Z) (H : Heap) (locs : List Loc) (hP : va_P (dC, dI) vwCl (mW cI cZ a S) H) (hD : va_D A (mW cI cZ a S)) (hS : va_S A s.heap H locs) (ls : Array Slot) (hl : lv_has ls 3 []) : W p l e rm_X8_look s m args below meth c H locs 0 0 (MQ below (va_Qi (fun (r : Int32) (u : St) => (r, u) = Z) (mWB dC dI cI cZ a A) A) args s 0 0 A) (F0 m 22 ls [.int z0]) := by
  obtain ⟨hx, hb, hr, hml, hown, hts, hlocks⟩ := id C0
  rw [ok_X8_look_22] at hok
  rw [rs_X8_look_22] at hZ
  exact W.iret (v := z0) hx hb hr (fun t ht hW => ⟨⟨z0, S, rfl, hZ, by rw [ht]; exact hP, va_K.moved hW.alike hK, hD⟩, hS.F ht⟩) hS.2.2 dX8_look_22 hlocks
def rs_X8_look_17 (S : St)  : Int32 × St := (rs_X8_look_22 (rs_X8_refuse S 1).2 ((rs_X8_refuse S 1).1))
def ok_X8_look_17 (S : St)  : Prop := ((ok_X8_refuse S 1) ∧ ok_X8_look_22 (rs_X8_refuse S 1).2 ((rs_X8_refuse S 1).1))
set_option maxHeartbeats 4000000 in
set_option maxRecDepth 100000 in
theorem w_X8_look_17 {p : Program} {l : Launch} {e : Env} {s : State} {m : MethodId} {args : Array Value} {below : List Frame} {meth : Method} {c : Code} {dC : Nat → ClassId} {dI : Nat → Nat → Nat} {cI cZ : ClassId} {a : Nat → Nat} {A : Nat → Prop} (C0 : Cx p s m args meth c RX8 cX8_look (some .int) 3 wsX8_look) (hK : va_K (dC, dI) vwCl (tI cI cZ) s) (hA : ∀ q, s.heap.size ≤ q → A q) (Z : Int32 × St) (S : St)  (hok : ok_X8_look_17 S) (hZ : rs_X8_look_17 S = Z) (H : Heap) (locs : List Loc) (hP : va_P (dC, dI) vwCl (mW cI cZ a S) H) (hD : va_D A (mW cI cZ a S)) (hS : va_S A s.heap H locs) (ls : Array Slot) (hl : lv_has ls 3 [(0, .ref (a 0))]) : W p l e rm_X8_look s m args below meth c H locs 0 0 (MQ below (va_Qi (fun (r : Int32) (u : St) => (r, u) = Z) (mWB dC dI cI cZ a A) A) args s 0 0 A) (F0 m 17 ls []) := by
  obtain ⟨hx, hb, hr, hml, hown, hts, hlocks⟩ := id C0
  rw [ok_X8_look_17] at hok
  rw [rs_X8_look_17] at hZ
  refine lv_aload_n hx hb dX8_look_17 rfl (lv_at hl 0 rfl) ?_
  refine lv_iconst (v := 1) hx hb dX8_look_18 (by decide) ?_
  obtain ⟨k_1, hok⟩ := hok
  have hFc := wFw (w := mW cI cZ a S) hD hS hA
  refine va_calli (va_runV (As := [.int 1]) (rest := []) ⟨hx, hb, hml, hown, hts⟩ (c_X8_refuse l dC dI cI cZ a H.size S 1 k_1) (cwV 1 hts gX8_look_X8_refuse rfl rfl rfl (by decide +kernel) ⟨Nat.le_of_ble_eq_true rfl, Nat.le_of_ble_eq_true rfl⟩) ⟨wBl, va_recv hK hP (ci := 7) (q0 := 0) rfl rfl, fun U hU hW => ⟨rfl, by rw [hU], by rw [hU]; exact hP, va_K.moved hW.alike hK, hD.weaken (fun _ _ _ _ => trivial)⟩⟩ rfl rfl hl.1 rfl (lv_room (Nat.le_of_ble_eq_true rfl)) dX8_look_19 ⟨Nat.zero_le _, Nat.zero_le _⟩) hS (fun q _ h => hFc q h) hFc (fun r u t H1 locs ht hvm hw hB hz1 hk1 hS => ?_)
  obtain ⟨hP, hD⟩ := wJn ht hFc hB.1 hB.2.2
  have e1 : r = (rs_X8_refuse S 1).1 := congrArg Prod.fst hw
  have e2 : u = (rs_X8_refuse S 1).2 := congrArg Prod.snd hw
  rw [e1]
  rw [e2] at hP hD
  generalize H1 = H at hP hS ⊢
  exact w_X8_look_22 C0 hK hA Z (rs_X8_refuse S 1).2 ((rs_X8_refuse S 1).1) hok hZ _ _ hP hD hS _ (lv_sub hl [] rfl)
def rs_X8_look_5 (S : St) (x1 : Int32) (x2 : Int32) (z0 : Int32) : Int32 × St := (if z0 = 0 then (rs_X8_look_17 S) else (if (rs_X8_in x2 0 4) = 0 then (rs_X8_look_17 S) else (if x2 = 0 then (((S.2 4) x1.toNatClampNeg), (sI S 2000 0)) else (if x2 = 1 then (if ((S.2 5) x1.toNatClampNeg) = 0 then (0, (sI S 2000 0)) else (1, (sI S 2000 0))) else (if x2 = 2 then (((S.2 6) x1.toNatClampNeg), (sI S 2000 0)) else (if x2 = 3 then (((S.2 7) x1.toNatClampNeg), (sI S 2000 0)) else (((S.2 8) x1.toNatClampNeg), (sI S 2000 0))))))))
def ok_X8_look_5 (S : St) (x1 : Int32) (x2 : Int32) (z0 : Int32) : Prop := (if z0 = 0 then ok_X8_look_17 S else ((ok_X8_in x2 0 4) ∧ (if (rs_X8_in x2 0 4) = 0 then ok_X8_look_17 S else (if x2 = 0 then ((vp_in x1 12) ∧ True) else (if x2 = 1 then ((vp_in x1 12) ∧ (if ((S.2 5) x1.toNatClampNeg) = 0 then True else True)) else (if x2 = 2 then ((vp_in x1 12) ∧ True) else (if x2 = 3 then ((vp_in x1 12) ∧ True) else ((vp_in x1 12) ∧ True))))))))
set_option maxHeartbeats 4000000 in
set_option maxRecDepth 100000 in
theorem w_X8_look_5 {p : Program} {l : Launch} {e : Env} {s : State} {m : MethodId} {args : Array Value} {below : List Frame} {meth : Method} {c : Code} {dC : Nat → ClassId} {dI : Nat → Nat → Nat} {cI cZ : ClassId} {a : Nat → Nat} {A : Nat → Prop} (C0 : Cx p s m args meth c RX8 cX8_look (some .int) 3 wsX8_look) (hK : va_K (dC, dI) vwCl (tI cI cZ) s) (hA : ∀ q, s.heap.size ≤ q → A q) (Z : Int32 × St) (S : St) (x1 : Int32) (x2 : Int32) (z0 : Int32) (hok : ok_X8_look_5 S x1 x2 z0) (hZ : rs_X8_look_5 S x1 x2 z0 = Z) (H : Heap) (locs : List Loc) (hP : va_P (dC, dI) vwCl (mW cI cZ a S) H) (hD : va_D A (mW cI cZ a S)) (hS : va_S A s.heap H locs) (ls : Array Slot) (hl : lv_has ls 3 [(0, .ref (a 0)), (1, .int x1), (2, .int x2)]) : W p l e rm_X8_look s m args below meth c H locs 0 0 (MQ below (va_Qi (fun (r : Int32) (u : St) => (r, u) = Z) (mWB dC dI cI cZ a A) A) args s 0 0 A) (F0 m 5 ls [.int z0]) := by
  obtain ⟨hx, hb, hr, hml, hown, hts, hlocks⟩ := id C0
  rw [ok_X8_look_5] at hok
  rw [rs_X8_look_5] at hZ
  refine lv_if_eq (tgt := 17) hx hb dX8_look_5 (by decide) (fun c_1 => ?_) (fun c_1 => ?_)
  · have hok := okT hok c_1
    have hZ := rsT hZ c_1
    exact w_X8_look_17 C0 hK hA Z S hok hZ _ _ hP hD hS _ (lv_sub hl [0] rfl)
  · have hok := okF hok c_1
    have hZ := rsF hZ c_1
    refine lv_iload_n hx hb dX8_look_8 rfl (lv_at hl 2 rfl) ?_
    refine lv_iconst (v := 0) hx hb dX8_look_9 (by decide) ?_
    refine lv_iconst (v := 4) hx hb dX8_look_10 (by decide) ?_
    obtain ⟨k_2, hok⟩ := hok
    have hFc := wFr hS hA
    refine va_calli (va_runS (As := [.int x2, .int 0, .int 4]) (rest := []) ⟨hx, hb, hml, hown, hts⟩ (c_X8_in l H.size x2 0 4 k_2) (va_cwS 3 hts gX8_look_X8_in rfl rfl rfl (by decide +kernel) ⟨Nat.le_of_ble_eq_true rfl, Nat.le_of_ble_eq_true rfl⟩) ⟨fun a9 U g9 mk9 q9 => q9, fun U hU hW => ⟨rfl, congrArg Array.size hU⟩⟩ rfl rfl hl.1 rfl (lv_room (Nat.le_of_ble_eq_true rfl)) dX8_look_11 ⟨Nat.zero_le _, Nat.zero_le _⟩) hS (fun q _ h => hFc q h) hFc (fun r u t H1 locs ht hvm hw hB hz1 hk1 hS => ?_)
    have hP := wKp hP hk1
    subst hw
    generalize H1 = H at hP hS ⊢
    refine lv_if_ne (tgt := 23) hx hb dX8_look_14 (by decide) (fun c_3 => ?_) (fun c_3 => ?_)
    · have hok := okF hok c_3
      have hZ := rsF hZ c_3
      refine lv_aload_n hx hb dX8_look_23 rfl (lv_at hl 0 rfl) ?_
      refine lv_iconst (v := 0) hx hb dX8_look_24 (by decide) ?_
      refine va_put (D := (dC, dI)) (ci := 7) (v := .int 0) (ty := .int) (C := RX8) (T := TX8) (N := 35) hx hb hts iX8_look_X8 tyX8 tyX8_ok nmX8 hown hK hP hD hS 0 rfl rfl 0 (by decide) (hts (.fieldLink RX8 88 "RiskHouseModel" "thrown" "I") (by decide +kernel)) (fun _ h9 => h9) rfl (by decide +kernel) rfl rfl (Nat.le_of_ble_eq_true rfl) dX8_look_25 (fun H locs hP hD hS => ?_)
      have hP : va_P (dC, dI) vwCl (mW cI cZ a (sI S 2000 0)) H := hP
      have hD : va_D A (mW cI cZ a (sI S 2000 0)) := hD
      refine lv_iload_n hx hb dX8_look_28 rfl (lv_at hl 2 rfl) ?_
      by_cases c_10_k0 : x2 = 0
      · have hok := okT hok c_10_k0
        have hZ := rsT hZ c_10_k0
        refine lv_tableIn (off := 31) (tgt := 60) hx hb dX8_look_29 (by rw [c_10_k0]; decide) (by rw [c_10_k0]; decide) (by rw [c_10_k0]; rfl) (by decide) ?_
        refine lv_aload_n hx hb dX8_look_60 rfl (lv_at hl 0 rfl) ?_
        refine va_get (D := (dC, dI)) (ci := 7) (v := .ref (a 4)) (C := RX8) (T := TX8) (N := 35) hx hb hts iX8_look_X8 hown hK hP 0 rfl rfl 6 (by decide) (hts (.fieldLink RX8 19 "RiskHouseModel" "editionOf" "[I") (by decide +kernel)) (fun _ h9 => h9) rfl dX8_look_61 ?_
        refine lv_iload_n hx hb dX8_look_64 rfl (lv_at hl 1 rfl) ?_
        obtain ⟨h_4, hok⟩ := hok
        refine va_iald (f := (S.2 4)) hx hb hK hP 4 0 rfl rfl h_4 dX8_look_65 ?_
        exact W.iret (v := ((S.2 4) x1.toNatClampNeg)) hx hb hr (fun t ht hW => ⟨⟨((S.2 4) x1.toNatClampNeg), (sI S 2000 0), rfl, hZ, by rw [ht]; exact hP, va_K.moved hW.alike hK, hD⟩, hS.F ht⟩) hS.2.2 dX8_look_66 hlocks
      · have hok := okF hok c_10_k0
        have hZ := rsF hZ c_10_k0
        by_cases c_10_k1 : x2 = 1
        · have hok := okT hok c_10_k1
          have hZ := rsT hZ c_10_k1
          refine lv_tableIn (off := 38) (tgt := 67) hx hb dX8_look_29 (by rw [c_10_k1]; decide) (by rw [c_10_k1]; decide) (by rw [c_10_k1]; rfl) (by decide) ?_
          refine lv_aload_n hx hb dX8_look_67 rfl (lv_at hl 0 rfl) ?_
          refine va_get (D := (dC, dI)) (ci := 7) (v := .ref (a 5)) (C := RX8) (T := TX8) (N := 35) hx hb hts iX8_look_X8 hown hK hP 0 rfl rfl 7 (by decide) (hts (.fieldLink RX8 22 "RiskHouseModel" "isStart" "[Z") (by decide +kernel)) (fun _ h9 => h9) rfl dX8_look_68 ?_
          refine lv_iload_n hx hb dX8_look_71 rfl (lv_at hl 1 rfl) ?_
          obtain ⟨h_5, hok⟩ := hok
          refine va_zald (f := (S.2 5)) hx hb hK hP 5 1 rfl rfl h_5 dX8_look_72 ?_
          refine lv_if_eq (tgt := 80) hx hb dX8_look_73 (by decide) (fun c_6 => ?_) (fun c_6 => ?_)
          · have hok := okT hok c_6
            have hZ := rsT hZ c_6
            refine lv_iconst (v := 0) hx hb dX8_look_80 (by decide) ?_
            exact W.iret (v := 0) hx hb hr (fun t ht hW => ⟨⟨0, (sI S 2000 0), rfl, hZ, by rw [ht]; exact hP, va_K.moved hW.alike hK, hD⟩, hS.F ht⟩) hS.2.2 dX8_look_81 hlocks
          · have hok := okF hok c_6
            have hZ := rsF hZ c_6
            refine lv_iconst (v := 1) hx hb dX8_look_76 (by decide) ?_
            refine lv_goto (tgt := 81) hx hb dX8_look_77 (by decide) ?_
            exact W.iret (v := 1) hx hb hr (fun t ht hW => ⟨⟨1, (sI S 2000 0), rfl, hZ, by rw [ht]; exact hP, va_K.moved hW.alike hK, hD⟩, hS.F ht⟩) hS.2.2 dX8_look_81 hlocks
        · have hok := okF hok c_10_k1
          have hZ := rsF hZ c_10_k1
          by_cases c_10_k2 : x2 = 2
          · have hok := okT hok c_10_k2
            have hZ := rsT hZ c_10_k2
            refine lv_tableIn (off := 53) (tgt := 82) hx hb dX8_look_29 (by rw [c_10_k2]; decide) (by rw [c_10_k2]; decide) (by rw [c_10_k2]; rfl) (by decide) ?_
            refine lv_aload_n hx hb dX8_look_82 rfl (lv_at hl 0 rfl) ?_
            refine va_get (D := (dC, dI)) (ci := 7) (v := .ref (a 6)) (C := RX8) (T := TX8) (N := 35) hx hb hts iX8_look_X8 hown hK hP 0 rfl rfl 8 (by decide) (hts (.fieldLink RX8 26 "RiskHouseModel" "size" "[I") (by decide +kernel)) (fun _ h9 => h9) rfl dX8_look_83 ?_
            refine lv_iload_n hx hb dX8_look_86 rfl (lv_at hl 1 rfl) ?_
            obtain ⟨h_7, hok⟩ := hok
            refine va_iald (f := (S.2 6)) hx hb hK hP 6 0 rfl rfl h_7 dX8_look_87 ?_
            exact W.iret (v := ((S.2 6) x1.toNatClampNeg)) hx hb hr (fun t ht hW => ⟨⟨((S.2 6) x1.toNatClampNeg), (sI S 2000 0), rfl, hZ, by rw [ht]; exact hP, va_K.moved hW.alike hK, hD⟩, hS.F ht⟩) hS.2.2 dX8_look_88 hlocks
          · have hok := okF hok c_10_k2
            have hZ := rsF hZ c_10_k2
            by_cases c_10_k3 : x2 = 3
            · have hok := okT hok c_10_k3
              have hZ := rsT hZ c_10_k3
              refine lv_tableIn (off := 60) (tgt := 89) hx hb dX8_look_29 (by rw [c_10_k3]; decide) (by rw [c_10_k3]; decide) (by rw [c_10_k3]; rfl) (by decide) ?_
              refine lv_aload_n hx hb dX8_look_89 rfl (lv_at hl 0 rfl) ?_
              refine va_get (D := (dC, dI)) (ci := 7) (v := .ref (a 9)) (C := RX8) (T := TX8) (N := 35) hx hb hts iX8_look_X8 hown hK hP 0 rfl rfl 11 (by decide) (hts (.fieldLink RX8 35 "RiskHouseModel" "value" "[I") (by decide +kernel)) (fun _ h9 => h9) rfl dX8_look_90 ?_
              refine lv_iload_n hx hb dX8_look_93 rfl (lv_at hl 1 rfl) ?_
              obtain ⟨h_8, hok⟩ := hok
              refine va_iald (f := (S.2 7)) hx hb hK hP 9 0 rfl rfl h_8 dX8_look_94 ?_
              exact W.iret (v := ((S.2 7) x1.toNatClampNeg)) hx hb hr (fun t ht hW => ⟨⟨((S.2 7) x1.toNatClampNeg), (sI S 2000 0), rfl, hZ, by rw [ht]; exact hP, va_K.moved hW.alike hK, hD⟩, hS.F ht⟩) hS.2.2 dX8_look_95 hlocks
            · have hok := okF hok c_10_k3
              have hZ := rsF hZ c_10_k3
              refine lv_tableOut (tgt := 96) hx hb dX8_look_29 (by have q0 := lv_neT (a := 0) c_10_k0 (by decide); have q1 := lv_neT (a := 1) c_10_k1 (by decide); have q2 := lv_neT (a := 2) c_10_k2 (by decide); have q3 := lv_neT (a := 3) c_10_k3 (by decide); omega) (by decide) ?_
              refine lv_aload_n hx hb dX8_look_96 rfl (lv_at hl 0 rfl) ?_
              refine va_get (D := (dC, dI)) (ci := 7) (v := .ref (a 10)) (C := RX8) (T := TX8) (N := 35) hx hb hts iX8_look_X8 hown hK hP 0 rfl rfl 12 (by decide) (hts (.fieldLink RX8 38 "RiskHouseModel" "steps" "[I") (by decide +kernel)) (fun _ h9 => h9) rfl dX8_look_97 ?_
              refine lv_iload_n hx hb dX8_look_100 rfl (lv_at hl 1 rfl) ?_
              obtain ⟨h_9, hok⟩ := hok
              refine va_iald (f := (S.2 8)) hx hb hK hP 10 0 rfl rfl h_9 dX8_look_101 ?_
              exact W.iret (v := ((S.2 8) x1.toNatClampNeg)) hx hb hr (fun t ht hW => ⟨⟨((S.2 8) x1.toNatClampNeg), (sI S 2000 0), rfl, hZ, by rw [ht]; exact hP, va_K.moved hW.alike hK, hD⟩, hS.F ht⟩) hS.2.2 dX8_look_102 hlocks
    · have hok := okT hok c_3
      have hZ := rsT hZ c_3
      exact w_X8_look_17 C0 hK hA Z S hok hZ _ _ hP hD hS _ (lv_sub hl [0] rfl)
def rs_X8_look (S : St) (x1 : Int32) (x2 : Int32) : Int32 × St := (rs_X8_look_5 (rs_X8_isRule S x1).2 x1 x2 ((rs_X8_isRule S x1).1))
def ok_X8_look (S : St) (x1 : Int32) (x2 : Int32) : Prop := ((ok_X8_isRule S x1) ∧ ok_X8_look_5 (rs_X8_isRule S x1).2 x1 x2 ((rs_X8_isRule S x1).1))
set_option maxHeartbeats 4000000 in
set_option maxRecDepth 100000 in
theorem w_X8_look {p : Program} {l : Launch} {e : Env} {s : State} {m : MethodId} {args : Array Value} {below : List Frame} {meth : Method} {c : Code} {dC : Nat → ClassId} {dI : Nat → Nat → Nat} {cI cZ : ClassId} {a : Nat → Nat} {A : Nat → Prop} (C0 : Cx p s m args meth c RX8 cX8_look (some .int) 3 wsX8_look) (hK : va_K (dC, dI) vwCl (tI cI cZ) s) (hA : ∀ q, s.heap.size ≤ q → A q) (Z : Int32 × St) (S : St) (x1 : Int32) (x2 : Int32) (hok : ok_X8_look S x1 x2) (hZ : rs_X8_look S x1 x2 = Z) (H : Heap) (locs : List Loc) (hP : va_P (dC, dI) vwCl (mW cI cZ a S) H) (hD : va_D A (mW cI cZ a S)) (hS : va_S A s.heap H locs) (ls : Array Slot) (hl : lv_has ls 3 [(0, .ref (a 0)), (1, .int x1), (2, .int x2)]) : W p l e rm_X8_look s m args below meth c H locs 0 0 (MQ below (va_Qi (fun (r : Int32) (u : St) => (r, u) = Z) (mWB dC dI cI cZ a A) A) args s 0 0 A) (F0 m 0 ls []) := by
  obtain ⟨hx, hb, hr, hml, hown, hts, hlocks⟩ := id C0
  rw [ok_X8_look] at hok
  rw [rs_X8_look] at hZ
  refine lv_aload_n hx hb dX8_look_0 rfl (lv_at hl 0 rfl) ?_
  refine lv_iload_n hx hb dX8_look_1 rfl (lv_at hl 1 rfl) ?_
  obtain ⟨k_1, hok⟩ := hok
  have hFc := wFw (w := mW cI cZ a S) hD hS hA
  refine va_calli (va_runV (As := [.int x1]) (rest := []) ⟨hx, hb, hml, hown, hts⟩ (c_X8_isRule l dC dI cI cZ a H.size S x1 k_1) (cwV 1 hts gX8_look_X8_isRule rfl rfl rfl (by decide +kernel) ⟨Nat.le_of_ble_eq_true rfl, Nat.le_of_ble_eq_true rfl⟩) ⟨wBl, va_recv hK hP (ci := 7) (q0 := 0) rfl rfl, fun U hU hW => ⟨rfl, by rw [hU], by rw [hU]; exact hP, va_K.moved hW.alike hK, hD.weaken (fun _ _ _ _ => trivial)⟩⟩ rfl rfl hl.1 rfl (lv_room (Nat.le_of_ble_eq_true rfl)) dX8_look_2 ⟨Nat.zero_le _, Nat.zero_le _⟩) hS (fun q _ h => hFc q h) hFc (fun r u t H1 locs ht hvm hw hB hz1 hk1 hS => ?_)
  obtain ⟨hP, hD⟩ := wJn ht hFc hB.1 hB.2.2
  have e1 : r = (rs_X8_isRule S x1).1 := congrArg Prod.fst hw
  have e2 : u = (rs_X8_isRule S x1).2 := congrArg Prod.snd hw
  rw [e1]
  rw [e2] at hP hD
  generalize H1 = H at hP hS ⊢
  exact w_X8_look_5 C0 hK hA Z (rs_X8_isRule S x1).2 x1 x2 ((rs_X8_isRule S x1).1) hok hZ _ _ hP hD hS _ (lv_sub hl [0, 1, 2] rfl)
set_option maxHeartbeats 4000000 in
set_option maxRecDepth 100000 in
theorem c_X8_look (l : Launch) (dC : Nat → ClassId) (dI : Nat → Nat → Nat) (cI cZ : ClassId) (a : Nat → Nat) (sz : Nat) (S : St) (x1 : Int32) (x2 : Int32) (hok : ok_X8_look S x1 x2) : Met l yX8_look wsX8_look rm_X8_look (va_Pc [.ref (a 0), .int x1, .int x2] (mWP dC dI cI cZ a sz S)) (va_Qi (fun (r : Int32) (u : St) => (r, u) = rs_X8_look S x1 x2) (mWB dC dI cI cZ a (va_A (mW cI cZ a S) sz)) (va_A (mW cI cZ a S) sz)) 0 0 (va_A (mW cI cZ a S) sz) := by
  refine Met.ofW (cc := cX8_look) (maxL := 3) (ret := (some .int)) (by decide) rfl ?_
  intro p e s m args below meth c s₁ B hml hv
  obtain ⟨rfl, hsz, hP, hK, hD0⟩ := hv
  subst hsz
  have hD := hD0.self (sz := s.heap.size)
  have hl := lv_entry ([.ref (a 0), .int x1, .int x2]) (n := 3) (Nat.le_of_ble_eq_true rfl)
  rw [lg_entry_eq]
  generalize (lg_sl ([.ref (a 0), .int x1, .int x2]) ++ List.replicate (3 - (lg_sl ([.ref (a 0), .int x1, .int x2])).length) Slot.unset).toArray = ls at hl ⊢
  have hl : lv_has ls 3 [(0, .ref (a 0)), (1, .int x1), (2, .int x2)] := hl
  exact w_X8_look ⟨B.exec, B.bytes, B.returns, hml, findClass_of_methodNamed B.named, atoms_spec (ws := wsX8_look) B.pre, B.notSynchronized⟩ hK (fun q h => Or.inr h) _ S x1 x2 hok rfl _ _ hP hD va_S.rf ls hl
abbrev rm_X8_count : Room := { frames := 0, cells := 0, slots := 0, locals := 0 }
theorem iX8_count_X8 : ∀ w ∈ wsX80, w ∈ wsX8_count := by decide +kernel
def rs_X8_count_58 (k : St → Int32 → Int32 → Int32 → Int32 × St) (S : St) (x1 : Int32) (x3 : Int32) (z0 : Int32) (z1 : Int32) : Int32 × St := (k S x1 (z0 + z1) (x3 + 1))
def ok_X8_count_58 (kk : St → Int32 → Int32 → Int32 → Prop) (S : St) (x1 : Int32) (x3 : Int32) (z0 : Int32) (z1 : Int32) : Prop := kk S x1 (z0 + z1) (x3 + 1)
set_option maxHeartbeats 4000000 in
set_option maxRecDepth 100000 in
theorem w_X8_count_58 {p : Program} {l : Launch} {e : Env} {s : State} {m : MethodId} {args : Array Value} {below : List Frame} {meth : Method} {c : Code} {dC : Nat → ClassId} {dI : Nat → Nat → Nat} {cI cZ : ClassId} {a : Nat → Nat} {A : Nat → Prop} (C0 : Cx p s m args meth c RX8 cX8_count (some .int) 4 wsX8_count) (hK : va_K (dC, dI) vwCl (tI cI cZ) s) (hA : ∀ q, s.heap.size ≤ q → A q) (Z : Int32 × St) (k : St → Int32 → Int32 → Int32 → Int32 × St) (kk : St → Int32 → Int32 → Int32 → Prop) (hk : ∀ (S : St) (x1 : Int32) (x2 : Int32) (x3 : Int32) (hok : kk S x1 x2 x3) (hZ : k S x1 x2 x3 = Z) (H : Heap) (locs : List Loc) (hP : va_P (dC, dI) vwCl (mW cI cZ a S) H) (hD : va_D A (mW cI cZ a S)) (hS : va_S A s.heap H locs) (ls : Array Slot) (hl : lv_has ls 4 [(0, .ref (a 0)), (1, .int x1), (2, .int x2), (3, .int x3)]), W p l e rm_X8_count s m args below meth c H locs 0 0 (MQ below (va_Qi (fun (r : Int32) (u : St) => (r, u) = Z) (mWB dC dI cI cZ a A) A) args s 0 0 A) (F0 m 35 ls [])) (S : St) (x1 : Int32) (x3 : Int32) (z0 : Int32) (z1 : Int32) (hok : ok_X8_count_58 kk S x1 x3 z0 z1) (hZ : rs_X8_count_58 k S x1 x3 z0 z1 = Z) (H : Heap) (locs : List Loc) (hP : va_P (dC, dI) vwCl (mW cI cZ a S) H) (hD : va_D A (mW cI cZ a S)) (hS : va_S A s.heap H locs) (ls : Array Slot) (hl : lv_has ls 4 [(0, .ref (a 0)), (1, .int x1), (3, .int x3)]) : W p l e rm_X8_count s m args below meth c H locs 0 0 (MQ below (va_Qi (fun (r : Int32) (u : St) => (r, u) = Z) (mWB dC dI cI cZ a A) A) args s 0 0 A) (F0 m 58 ls [.int z1, .int z0]) := by
  obtain ⟨hx, hb, hr, hml, hown, hts, hlocks⟩ := id C0
  rw [ok_X8_count_58] at hok
  rw [rs_X8_count_58] at hZ
  refine lv_iadd hx hb dX8_count_58 ?_
  refine lv_istore_n (lv' := [(2, .int (z0 + z1)), (0, .ref (a 0)), (1, .int x1), (3, .int x3)]) hx hb dX8_count_59 rfl hl (by decide) rfl (fun ls hl => ?_)
  refine lv_iinc (v := (x3 + 1)) (lv' := [(3, .int (x3 + 1)), (2, .int (z0 + z1)), (0, .ref (a 0)), (1, .int x1)]) hx hb dX8_count_60 hl (k := 3) rfl rfl (by decide) rfl (fun ls hl => ?_)
  refine lv_goto (tgt := 35) hx hb dX8_count_63 (by decide) ?_
  exact hk S x1 (z0 + z1) (x3 + 1) hok hZ _ _ hP hD hS _ (lv_sub hl [2, 3, 1, 0] rfl)
def rs_X8_count_35 : Nat → St → Int32 → Int32 → Int32 → Int32 × St
  | 0, S, x1, x2, x3 => (0, S)
  | n + 1, S, x1, x2, x3 => (if (S.1 686) ≤ x3 then (if x1 = 0 then ((S.1 127), S) else (if x1 = 1 then ((S.1 686), S) else (if x1 = 2 then ((S.1 2001), S) else (if x1 = 3 then (((S.1 601) - (S.1 602)), S) else (if x1 = 4 then (x2, S) else ((-1), S)))))) else (if ((S.2 22) x3.toNatClampNeg) = 0 then (rs_X8_count_58 (rs_X8_count_35 n) S x1 x3 x2 0) else (rs_X8_count_58 (rs_X8_count_35 n) S x1 x3 x2 1)))
def ok_X8_count_35 : Nat → St → Int32 → Int32 → Int32 → Prop
  | 0, _, _, _, _ => False
  | n + 1, S, x1, x2, x3 => (if (S.1 686) ≤ x3 then (if x1 = 0 then True else (if x1 = 1 then True else (if x1 = 2 then True else (if x1 = 3 then True else (if x1 = 4 then True else True))))) else ((vp_in x3 40) ∧ (if ((S.2 22) x3.toNatClampNeg) = 0 then ok_X8_count_58 (ok_X8_count_35 n) S x1 x3 x2 0 else ok_X8_count_58 (ok_X8_count_35 n) S x1 x3 x2 1)))
set_option maxHeartbeats 4000000 in
set_option maxRecDepth 100000 in
theorem w_X8_count_35 {p : Program} {l : Launch} {e : Env} {s : State} {m : MethodId} {args : Array Value} {below : List Frame} {meth : Method} {c : Code} {dC : Nat → ClassId} {dI : Nat → Nat → Nat} {cI cZ : ClassId} {a : Nat → Nat} {A : Nat → Prop} (C0 : Cx p s m args meth c RX8 cX8_count (some .int) 4 wsX8_count) (hK : va_K (dC, dI) vwCl (tI cI cZ) s) (hA : ∀ q, s.heap.size ≤ q → A q) (Z : Int32 × St) : ∀ (n : Nat) (S : St) (x1 : Int32) (x2 : Int32) (x3 : Int32) (hok : ok_X8_count_35 n S x1 x2 x3) (hZ : rs_X8_count_35 n S x1 x2 x3 = Z) (H : Heap) (locs : List Loc) (hP : va_P (dC, dI) vwCl (mW cI cZ a S) H) (hD : va_D A (mW cI cZ a S)) (hS : va_S A s.heap H locs) (ls : Array Slot) (hl : lv_has ls 4 [(0, .ref (a 0)), (1, .int x1), (2, .int x2), (3, .int x3)]), W p l e rm_X8_count s m args below meth c H locs 0 0 (MQ below (va_Qi (fun (r : Int32) (u : St) => (r, u) = Z) (mWB dC dI cI cZ a A) A) args s 0 0 A) (F0 m 35 ls []) := by
  obtain ⟨hx, hb, hr, hml, hown, hts, hlocks⟩ := id C0
  intro n
  induction n with
  | zero => intro S x1 x2 x3 hok; exact absurd hok (fun h => h)
  | succ n ih =>
    intro S x1 x2 x3 hok hZ H locs hP hD hS ls hl
    rw [ok_X8_count_35] at hok
    rw [rs_X8_count_35] at hZ
    refine lv_iload_n hx hb dX8_count_35 rfl (lv_at hl 3 rfl) ?_
    refine lv_aload_n hx hb dX8_count_36 rfl (lv_at hl 0 rfl) ?_
    refine va_get (D := (dC, dI)) (ci := 7) (v := .int (S.1 686)) (C := RX8) (T := TX8) (N := 35) hx hb hts iX8_count_X8 hown hK hP 0 rfl rfl 19 (by decide) (hts (.fieldLink RX8 142 "RiskHouseModel" "cases" "I") (by decide +kernel)) (fun _ h9 => h9) rfl dX8_count_37 ?_
    refine lv_icmp_ge (tgt := 66) hx hb dX8_count_40 (by decide) (fun c_1 => ?_) (fun c_1 => ?_)
    · have hok := okT hok c_1
      have hZ := rsT hZ c_1
      refine lv_iload_n hx hb dX8_count_66 rfl (lv_at hl 1 rfl) ?_
      by_cases c_2_k0 : x1 = 0
      · have hok := okT hok c_2_k0
        have hZ := rsT hZ c_2_k0
        refine lv_tableIn (off := 33) (tgt := 100) hx hb dX8_count_67 (by rw [c_2_k0]; decide) (by rw [c_2_k0]; decide) (by rw [c_2_k0]; rfl) (by decide) ?_
        refine lv_aload_n hx hb dX8_count_100 rfl (lv_at hl 0 rfl) ?_
        refine va_get (D := (dC, dI)) (ci := 7) (v := .int (S.1 127)) (C := RX8) (T := TX8) (N := 35) hx hb hts iX8_count_X8 hown hK hP 0 rfl rfl 5 (by decide) (hts (.fieldLink RX8 91 "RiskHouseModel" "rules" "I") (by decide +kernel)) (fun _ h9 => h9) rfl dX8_count_101 ?_
        exact W.iret (v := (S.1 127)) hx hb hr (fun t ht hW => ⟨⟨(S.1 127), S, rfl, hZ, by rw [ht]; exact hP, va_K.moved hW.alike hK, hD⟩, hS.F ht⟩) hS.2.2 dX8_count_104 hlocks
      · have hok := okF hok c_2_k0
        have hZ := rsF hZ c_2_k0
        by_cases c_2_k1 : x1 = 1
        · have hok := okT hok c_2_k1
          have hZ := rsT hZ c_2_k1
          refine lv_tableIn (off := 38) (tgt := 105) hx hb dX8_count_67 (by rw [c_2_k1]; decide) (by rw [c_2_k1]; decide) (by rw [c_2_k1]; rfl) (by decide) ?_
          refine lv_aload_n hx hb dX8_count_105 rfl (lv_at hl 0 rfl) ?_
          refine va_get (D := (dC, dI)) (ci := 7) (v := .int (S.1 686)) (C := RX8) (T := TX8) (N := 35) hx hb hts iX8_count_X8 hown hK hP 0 rfl rfl 19 (by decide) (hts (.fieldLink RX8 142 "RiskHouseModel" "cases" "I") (by decide +kernel)) (fun _ h9 => h9) rfl dX8_count_106 ?_
          exact W.iret (v := (S.1 686)) hx hb hr (fun t ht hW => ⟨⟨(S.1 686), S, rfl, hZ, by rw [ht]; exact hP, va_K.moved hW.alike hK, hD⟩, hS.F ht⟩) hS.2.2 dX8_count_109 hlocks
        · have hok := okF hok c_2_k1
          have hZ := rsF hZ c_2_k1
          by_cases c_2_k2 : x1 = 2
          · have hok := okT hok c_2_k2
            have hZ := rsT hZ c_2_k2
            refine lv_tableIn (off := 43) (tgt := 110) hx hb dX8_count_67 (by rw [c_2_k2]; decide) (by rw [c_2_k2]; decide) (by rw [c_2_k2]; rfl) (by decide) ?_
            refine lv_aload_n hx hb dX8_count_110 rfl (lv_at hl 0 rfl) ?_
            refine va_get (D := (dC, dI)) (ci := 7) (v := .int (S.1 2001)) (C := RX8) (T := TX8) (N := 35) hx hb hts iX8_count_X8 hown hK hP 0 rfl rfl 26 (by decide) (hts (.fieldLink RX8 139 "RiskHouseModel" "failures" "I") (by decide +kernel)) (fun _ h9 => h9) rfl dX8_count_111 ?_
            exact W.iret (v := (S.1 2001)) hx hb hr (fun t ht hW => ⟨⟨(S.1 2001), S, rfl, hZ, by rw [ht]; exact hP, va_K.moved hW.alike hK, hD⟩, hS.F ht⟩) hS.2.2 dX8_count_114 hlocks
          · have hok := okF hok c_2_k2
            have hZ := rsF hZ c_2_k2
            by_cases c_2_k3 : x1 = 3
            · have hok := okT hok c_2_k3
              have hZ := rsT hZ c_2_k3
              refine lv_tableIn (off := 48) (tgt := 115) hx hb dX8_count_67 (by rw [c_2_k3]; decide) (by rw [c_2_k3]; decide) (by rw [c_2_k3]; rfl) (by decide) ?_
              refine lv_aload_n hx hb dX8_count_115 rfl (lv_at hl 0 rfl) ?_
              refine va_get (D := (dC, dI)) (ci := 7) (v := .int (S.1 601)) (C := RX8) (T := TX8) (N := 35) hx hb hts iX8_count_X8 hown hK hP 0 rfl rfl 13 (by decide) (hts (.fieldLink RX8 113 "RiskHouseModel" "numbers" "I") (by decide +kernel)) (fun _ h9 => h9) rfl dX8_count_116 ?_
              refine lv_aload_n hx hb dX8_count_119 rfl (lv_at hl 0 rfl) ?_
              refine va_get (D := (dC, dI)) (ci := 7) (v := .int (S.1 602)) (C := RX8) (T := TX8) (N := 35) hx hb hts iX8_count_X8 hown hK hP 0 rfl rfl 14 (by decide) (hts (.fieldLink RX8 164 "RiskHouseModel" "taken" "I") (by decide +kernel)) (fun _ h9 => h9) rfl dX8_count_120 ?_
              refine lv_isub hx hb dX8_count_123 ?_
              exact W.iret (v := ((S.1 601) - (S.1 602))) hx hb hr (fun t ht hW => ⟨⟨((S.1 601) - (S.1 602)), S, rfl, hZ, by rw [ht]; exact hP, va_K.moved hW.alike hK, hD⟩, hS.F ht⟩) hS.2.2 dX8_count_124 hlocks
            · have hok := okF hok c_2_k3
              have hZ := rsF hZ c_2_k3
              by_cases c_2_k4 : x1 = 4
              · have hok := okT hok c_2_k4
                have hZ := rsT hZ c_2_k4
                refine lv_tableIn (off := 58) (tgt := 125) hx hb dX8_count_67 (by rw [c_2_k4]; decide) (by rw [c_2_k4]; decide) (by rw [c_2_k4]; rfl) (by decide) ?_
                refine lv_iload_n hx hb dX8_count_125 rfl (lv_at hl 2 rfl) ?_
                exact W.iret (v := x2) hx hb hr (fun t ht hW => ⟨⟨x2, S, rfl, hZ, by rw [ht]; exact hP, va_K.moved hW.alike hK, hD⟩, hS.F ht⟩) hS.2.2 dX8_count_126 hlocks
              · have hok := okF hok c_2_k4
                have hZ := rsF hZ c_2_k4
                refine lv_tableOut (tgt := 127) hx hb dX8_count_67 (by have q0 := lv_neT (a := 0) c_2_k0 (by decide); have q1 := lv_neT (a := 1) c_2_k1 (by decide); have q2 := lv_neT (a := 2) c_2_k2 (by decide); have q3 := lv_neT (a := 3) c_2_k3 (by decide); have q4 := lv_neT (a := 4) c_2_k4 (by decide); omega) (by decide) ?_
                refine lv_iconst (v := (-1)) hx hb dX8_count_127 (by decide) ?_
                exact W.iret (v := (-1)) hx hb hr (fun t ht hW => ⟨⟨(-1), S, rfl, hZ, by rw [ht]; exact hP, va_K.moved hW.alike hK, hD⟩, hS.F ht⟩) hS.2.2 dX8_count_128 hlocks
    · have hok := okF hok c_1
      have hZ := rsF hZ c_1
      refine lv_iload_n hx hb dX8_count_43 rfl (lv_at hl 2 rfl) ?_
      refine lv_aload_n hx hb dX8_count_44 rfl (lv_at hl 0 rfl) ?_
      refine va_get (D := (dC, dI)) (ci := 7) (v := .ref (a 17)) (C := RX8) (T := TX8) (N := 35) hx hb hts iX8_count_X8 hown hK hP 0 rfl rfl 24 (by decide) (hts (.fieldLink RX8 63 "RiskHouseModel" "decided" "[Z") (by decide +kernel)) (fun _ h9 => h9) rfl dX8_count_45 ?_
      refine lv_iload_n hx hb dX8_count_48 rfl (lv_at hl 3 rfl) ?_
      obtain ⟨h_3, hok⟩ := hok
      refine va_zald (f := (S.2 22)) hx hb hK hP 17 1 rfl rfl h_3 dX8_count_49 ?_
      refine lv_if_eq (tgt := 57) hx hb dX8_count_50 (by decide) (fun c_4 => ?_) (fun c_4 => ?_)
      · have hok := okT hok c_4
        have hZ := rsT hZ c_4
        refine lv_iconst (v := 0) hx hb dX8_count_57 (by decide) ?_
        exact w_X8_count_58 C0 hK hA Z (rs_X8_count_35 n) (ok_X8_count_35 n) ih S x1 x3 x2 0 hok hZ _ _ hP hD hS _ (lv_sub hl [0, 1, 3] rfl)
      · have hok := okF hok c_4
        have hZ := rsF hZ c_4
        refine lv_iconst (v := 1) hx hb dX8_count_53 (by decide) ?_
        refine lv_goto (tgt := 58) hx hb dX8_count_54 (by decide) ?_
        exact w_X8_count_58 C0 hK hA Z (rs_X8_count_35 n) (ok_X8_count_35 n) ih S x1 x3 x2 1 hok hZ _ _ hP hD hS _ (lv_sub hl [0, 1, 3] rfl)
def rs_X8_count (S : St) (x1 : Int32) : Int32 × St := (if x1 < 10 then (rs_X8_count_35 100 (sI S 2000 0) x1 0 0) else (if 18 ≤ x1 then ((-1), (sI S 2000 0)) else (((S.2 1) (x1 - 10).toNatClampNeg), (sI S 2000 0))))
def ok_X8_count (S : St) (x1 : Int32) : Prop := (if x1 < 10 then ok_X8_count_35 100 (sI S 2000 0) x1 0 0 else (if 18 ≤ x1 then True else ((vp_in (x1 - 10) 8) ∧ True)))
set_option maxHeartbeats 4000000 in
set_option maxRecDepth 100000 in
theorem w_X8_count {p : Program} {l : Launch} {e : Env} {s : State} {m : MethodId} {args : Array Value} {below : List Frame} {meth : Method} {c : Code} {dC : Nat → ClassId} {dI : Nat → Nat → Nat} {cI cZ : ClassId} {a : Nat → Nat} {A : Nat → Prop} (C0 : Cx p s m args meth c RX8 cX8_count (some .int) 4 wsX8_count) (hK : va_K (dC, dI) vwCl (tI cI cZ) s) (hA : ∀ q, s.heap.size ≤ q → A q) (Z : Int32 × St) (S : St) (x1 : Int32) (hok : ok_X8_count S x1) (hZ : rs_X8_count S x1 = Z) (H : Heap) (locs : List Loc) (hP : va_P (dC, dI) vwCl (mW cI cZ a S) H) (hD : va_D A (mW cI cZ a S)) (hS : va_S A s.heap H locs) (ls : Array Slot) (hl : lv_has ls 4 [(0, .ref (a 0)), (1, .int x1)]) : W p l e rm_X8_count s m args below meth c H locs 0 0 (MQ below (va_Qi (fun (r : Int32) (u : St) => (r, u) = Z) (mWB dC dI cI cZ a A) A) args s 0 0 A) (F0 m 0 ls []) := by
  obtain ⟨hx, hb, hr, hml, hown, hts, hlocks⟩ := id C0
  rw [ok_X8_count] at hok
  rw [rs_X8_count] at hZ
  refine lv_aload_n hx hb dX8_count_0 rfl (lv_at hl 0 rfl) ?_
  refine lv_iconst (v := 0) hx hb dX8_count_1 (by decide) ?_
  refine va_put (D := (dC, dI)) (ci := 7) (v := .int 0) (ty := .int) (C := RX8) (T := TX8) (N := 35) hx hb hts iX8_count_X8 tyX8 tyX8_ok nmX8 hown hK hP hD hS 0 rfl rfl 0 (by decide) (hts (.fieldLink RX8 88 "RiskHouseModel" "thrown" "I") (by decide +kernel)) (fun _ h9 => h9) rfl (by decide +kernel) rfl rfl (Nat.le_of_ble_eq_true rfl) dX8_count_2 (fun H locs hP hD hS => ?_)
  have hP : va_P (dC, dI) vwCl (mW cI cZ a (sI S 2000 0)) H := hP
  have hD : va_D A (mW cI cZ a (sI S 2000 0)) := hD
  refine lv_iload_n hx hb dX8_count_5 rfl (lv_at hl 1 rfl) ?_
  refine lv_bipush (v := 10) hx hb dX8_count_6 (by decide) ?_
  refine lv_icmp_lt (tgt := 31) hx hb dX8_count_8 (by decide) (fun c_1 => ?_) (fun c_1 => ?_)
  · have hok := okT hok c_1
    have hZ := rsT hZ c_1
    refine lv_iconst (v := 0) hx hb dX8_count_31 (by decide) ?_
    refine lv_istore_n (lv' := [(2, .int 0), (0, .ref (a 0)), (1, .int x1)]) hx hb dX8_count_32 rfl hl (by decide) rfl (fun ls hl => ?_)
    refine lv_iconst (v := 0) hx hb dX8_count_33 (by decide) ?_
    refine lv_istore_n (lv' := [(3, .int 0), (2, .int 0), (0, .ref (a 0)), (1, .int x1)]) hx hb dX8_count_34 rfl hl (by decide) rfl (fun ls hl => ?_)
    exact w_X8_count_35 C0 hK hA Z 100 (sI S 2000 0) x1 0 0 hok hZ _ _ hP hD hS _ (lv_sub hl [2, 3, 1, 0] rfl)
  · have hok := okF hok c_1
    have hZ := rsF hZ c_1
    refine lv_iload_n hx hb dX8_count_11 rfl (lv_at hl 1 rfl) ?_
    refine lv_bipush (v := 18) hx hb dX8_count_12 (by decide) ?_
    refine lv_icmp_ge (tgt := 29) hx hb dX8_count_14 (by decide) (fun c_2 => ?_) (fun c_2 => ?_)
    · have hok := okT hok c_2
      have hZ := rsT hZ c_2
      refine lv_iconst (v := (-1)) hx hb dX8_count_29 (by decide) ?_
      exact W.iret (v := (-1)) hx hb hr (fun t ht hW => ⟨⟨(-1), (sI S 2000 0), rfl, hZ, by rw [ht]; exact hP, va_K.moved hW.alike hK, hD⟩, hS.F ht⟩) hS.2.2 dX8_count_30 hlocks
    · have hok := okF hok c_2
      have hZ := rsF hZ c_2
      refine lv_aload_n hx hb dX8_count_17 rfl (lv_at hl 0 rfl) ?_
      refine va_get (D := (dC, dI)) (ci := 7) (v := .ref (a 1)) (C := RX8) (T := TX8) (N := 35) hx hb hts iX8_count_X8 hown hK hP 0 rfl rfl 2 (by decide) (hts (.fieldLink RX8 7 "RiskHouseModel" "field" "[I") (by decide +kernel)) (fun _ h9 => h9) rfl dX8_count_18 ?_
      refine lv_iload_n hx hb dX8_count_21 rfl (lv_at hl 1 rfl) ?_
      refine lv_bipush (v := 10) hx hb dX8_count_22 (by decide) ?_
      refine lv_isub hx hb dX8_count_24 ?_
      obtain ⟨h_3, hok⟩ := hok
      refine va_iald (f := (S.2 1)) hx hb hK hP 1 0 rfl rfl h_3 dX8_count_25 ?_
      refine lv_goto (tgt := 30) hx hb dX8_count_26 (by decide) ?_
      exact W.iret (v := ((S.2 1) (x1 - 10).toNatClampNeg)) hx hb hr (fun t ht hW => ⟨⟨((S.2 1) (x1 - 10).toNatClampNeg), (sI S 2000 0), rfl, hZ, by rw [ht]; exact hP, va_K.moved hW.alike hK, hD⟩, hS.F ht⟩) hS.2.2 dX8_count_30 hlocks
set_option maxHeartbeats 4000000 in
set_option maxRecDepth 100000 in
theorem c_X8_count (l : Launch) (dC : Nat → ClassId) (dI : Nat → Nat → Nat) (cI cZ : ClassId) (a : Nat → Nat) (sz : Nat) (S : St) (x1 : Int32) (hok : ok_X8_count S x1) : Met l yX8_count wsX8_count rm_X8_count (va_Pc [.ref (a 0), .int x1] (mWP dC dI cI cZ a sz S)) (va_Qi (fun (r : Int32) (u : St) => (r, u) = rs_X8_count S x1) (mWB dC dI cI cZ a (va_A (mW cI cZ a S) sz)) (va_A (mW cI cZ a S) sz)) 0 0 (va_A (mW cI cZ a S) sz) := by
  refine Met.ofW (cc := cX8_count) (maxL := 4) (ret := (some .int)) (by decide) rfl ?_
  intro p e s m args below meth c s₁ B hml hv
  obtain ⟨rfl, hsz, hP, hK, hD0⟩ := hv
  subst hsz
  have hD := hD0.self (sz := s.heap.size)
  have hl := lv_entry ([.ref (a 0), .int x1]) (n := 4) (Nat.le_of_ble_eq_true rfl)
  rw [lg_entry_eq]
  generalize (lg_sl ([.ref (a 0), .int x1]) ++ List.replicate (4 - (lg_sl ([.ref (a 0), .int x1])).length) Slot.unset).toArray = ls at hl ⊢
  have hl : lv_has ls 4 [(0, .ref (a 0)), (1, .int x1)] := hl
  exact w_X8_count ⟨B.exec, B.bytes, B.returns, hml, findClass_of_methodNamed B.named, atoms_spec (ws := wsX8_count) B.pre, B.notSynchronized⟩ hK (fun q h => Or.inr h) _ S x1 hok rfl _ _ hP hD va_S.rf ls hl
