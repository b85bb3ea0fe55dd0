/-! THE LAW'S WORLD: cut for a call, put together behind it -/
set_option maxHeartbeats 4000000 in
set_option maxRecDepth 100000 in
theorem lP_c {D : va_G} {cl : List vw_C} {cI cZ cL : ClassId} {a d : Nat → Nat} {ao : Nat} {C M : St} {G : Nat → Int64} {H : Heap} (hP : va_P D cl (lW cI cZ cL a ao d C G M) H) : va_P D cl (cO cI cZ cL a ao C G) H := hP.sub [0, 1, 2, 3, 4, 5, 6, 7, 8, 9, 10, 11, 12, 13, 14, 15, 16, 17, 18, 19, 20, 21, 22, 23, 24, 25, 26, 27, 28] rfl
set_option maxHeartbeats 4000000 in
set_option maxRecDepth 100000 in
theorem lD_c {A : Nat → Prop} {cI cZ cL : ClassId} {a d : Nat → Nat} {ao : Nat} {C M : St} {G : Nat → Int64} (hD : va_D A (lW cI cZ cL a ao d C G M)) : va_D A (cO cI cZ cL a ao C G) := hD.sub [0, 1, 2, 3, 4, 5, 6, 7, 8, 9, 10, 11, 12, 13, 14, 15, 16, 17, 18, 19, 20, 21, 22, 23, 24, 25, 26, 27, 28] (by decide +kernel) rfl
set_option maxHeartbeats 4000000 in
set_option maxRecDepth 100000 in
theorem lF_c {A : Nat → Prop} {cI cZ cL : ClassId} {a d : Nat → Nat} {ao : Nat} {C M : St} {G : Nat → Int64} {H0 H : Heap} {locs : List Loc} (hD : va_D A (lW cI cZ cL a ao d C G M)) (hS : va_S A H0 H locs) (hA : ∀ q, H0.size ≤ q → A q) : ∀ q, va_A (cO cI cZ cL a ao C G) H.size q → A q := va_free (wc := cO cI cZ cL a ao C G) hD hS hA [0, 1, 2, 3, 4, 5, 6, 7, 8, 9, 10, 11, 12, 13, 14, 15, 16, 17, 18, 19, 20, 21, 22, 23, 24, 25, 26, 27, 28] rfl
set_option maxHeartbeats 4000000 in
set_option maxRecDepth 100000 in
theorem lP_h {D : va_G} {cl : List vw_C} {cI cZ cL : ClassId} {a d : Nat → Nat} {ao : Nat} {C M : St} {G : Nat → Int64} {H : Heap} (hP : va_P D cl (lW cI cZ cL a ao d C G M) H) : va_P D cl (cW cI cZ a C) H := hP.sub [0, 1, 2, 3, 4, 5, 6, 7, 8, 9, 10, 11, 12, 13, 14, 15, 16, 17, 18, 19, 20, 21, 22, 23, 24, 25, 26, 27] rfl
set_option maxHeartbeats 4000000 in
set_option maxRecDepth 100000 in
theorem lD_h {A : Nat → Prop} {cI cZ cL : ClassId} {a d : Nat → Nat} {ao : Nat} {C M : St} {G : Nat → Int64} (hD : va_D A (lW cI cZ cL a ao d C G M)) : va_D A (cW cI cZ a C) := hD.sub [0, 1, 2, 3, 4, 5, 6, 7, 8, 9, 10, 11, 12, 13, 14, 15, 16, 17, 18, 19, 20, 21, 22, 23, 24, 25, 26, 27] (by decide +kernel) rfl
set_option maxHeartbeats 4000000 in
set_option maxRecDepth 100000 in
theorem lF_h {A : Nat → Prop} {cI cZ cL : ClassId} {a d : Nat → Nat} {ao : Nat} {C M : St} {G : Nat → Int64} {H0 H : Heap} {locs : List Loc} (hD : va_D A (lW cI cZ cL a ao d C G M)) (hS : va_S A H0 H locs) (hA : ∀ q, H0.size ≤ q → A q) : ∀ q, va_A (cW cI cZ a C) H.size q → A q := va_free (wc := cW cI cZ a C) hD hS hA [0, 1, 2, 3, 4, 5, 6, 7, 8, 9, 10, 11, 12, 13, 14, 15, 16, 17, 18, 19, 20, 21, 22, 23, 24, 25, 26, 27] rfl
set_option maxHeartbeats 4000000 in
set_option maxRecDepth 100000 in
theorem lP_m {D : va_G} {cl : List vw_C} {cI cZ cL : ClassId} {a d : Nat → Nat} {ao : Nat} {C M : St} {G : Nat → Int64} {H : Heap} (hP : va_P D cl (lW cI cZ cL a ao d C G M) H) : va_P D cl (mW cI cZ d M) H := hP.sub [29, 30, 31, 32, 33, 34, 35, 36, 37, 38, 39, 40, 41, 42, 43, 44, 45, 46, 47, 48, 49, 50, 51, 52] rfl
set_option maxHeartbeats 4000000 in
set_option maxRecDepth 100000 in
theorem lD_m {A : Nat → Prop} {cI cZ cL : ClassId} {a d : Nat → Nat} {ao : Nat} {C M : St} {G : Nat → Int64} (hD : va_D A (lW cI cZ cL a ao d C G M)) : va_D A (mW cI cZ d M) := hD.sub [29, 30, 31, 32, 33, 34, 35, 36, 37, 38, 39, 40, 41, 42, 43, 44, 45, 46, 47, 48, 49, 50, 51, 52] (by decide +kernel) rfl
set_option maxHeartbeats 4000000 in
set_option maxRecDepth 100000 in
theorem lF_m {A : Nat → Prop} {cI cZ cL : ClassId} {a d : Nat → Nat} {ao : Nat} {C M : St} {G : Nat → Int64} {H0 H : Heap} {locs : List Loc} (hD : va_D A (lW cI cZ cL a ao d C G M)) (hS : va_S A H0 H locs) (hA : ∀ q, H0.size ≤ q → A q) : ∀ q, va_A (mW cI cZ d M) H.size q → A q := va_free (wc := mW cI cZ d M) hD hS hA [29, 30, 31, 32, 33, 34, 35, 36, 37, 38, 39, 40, 41, 42, 43, 44, 45, 46, 47, 48, 49, 50, 51, 52] rfl
set_option maxHeartbeats 4000000 in
set_option maxRecDepth 100000 in
theorem lJ_c {A : Nat → Prop} {D : va_G} {cl : List vw_C} {cI cZ cL : ClassId} {a d : Nat → Nat} {ao : Nat} {C M : St} {G : Nat → Int64} {H : Heap} {H1 : Heap} {C1 : St} {G1 : Nat → Int64} (hP : va_P D cl (lW cI cZ cL a ao d C G M) H) (hD : va_D A (lW cI cZ cL a ao d C G M)) (hk : ∀ q : Nat, q < H.size → ¬ va_A (cO cI cZ cL a ao C G) H.size q → H1[q]? = H[q]?) (hF : ∀ q, va_A (cO cI cZ cL a ao C G) H.size q → A q) (hP1 : va_P D cl (cO cI cZ cL a ao C1 G1) H1) (hD1 : va_D (va_A (cO cI cZ cL a ao C G) H.size) (cO cI cZ cL a ao C1 G1)) : va_P D cl (lW cI cZ cL a ao d C1 G1 M) H1 ∧ va_D A (lW cI cZ cL a ao d C1 G1 M) := by
  obtain ⟨hP, hD⟩ := va_join (wr := mW cI cZ d M) (w1 := cO cI cZ cL a ao C1 G1) hP hD [0, 1, 2, 3, 4, 5, 6, 7, 8, 9, 10, 11, 12, 13, 14, 15, 16, 17, 18, 19, 20, 21, 22, 23, 24, 25, 26, 27, 28] [29, 30, 31, 32, 33, 34, 35, 36, 37, 38, 39, 40, 41, 42, 43, 44, 45, 46, 47, 48, 49, 50, 51, 52] rfl rfl (by decide +kernel) (by decide +kernel) hk hF hP1 hD1
  exact ⟨hP.sub [24, 25, 26, 27, 28, 29, 30, 31, 32, 33, 34, 35, 36, 37, 38, 39, 40, 41, 42, 43, 44, 45, 46, 47, 48, 49, 50, 51, 52, 0, 1, 2, 3, 4, 5, 6, 7, 8, 9, 10, 11, 12, 13, 14, 15, 16, 17, 18, 19, 20, 21, 22, 23] rfl, hD.sub [24, 25, 26, 27, 28, 29, 30, 31, 32, 33, 34, 35, 36, 37, 38, 39, 40, 41, 42, 43, 44, 45, 46, 47, 48, 49, 50, 51, 52, 0, 1, 2, 3, 4, 5, 6, 7, 8, 9, 10, 11, 12, 13, 14, 15, 16, 17, 18, 19, 20, 21, 22, 23] (by decide +kernel) rfl⟩
set_option maxHeartbeats 4000000 in
set_option maxRecDepth 100000 in
theorem lJ_h {A : Nat → Prop} {D : va_G} {cl : List vw_C} {cI cZ cL : ClassId} {a d : Nat → Nat} {ao : Nat} {C M : St} {G : Nat → Int64} {H : Heap} {H1 : Heap} {C1 : St} (hP : va_P D cl (lW cI cZ cL a ao d C G M) H) (hD : va_D A (lW cI cZ cL a ao d C G M)) (hk : ∀ q : Nat, q < H.size → ¬ va_A (cW cI cZ a C) H.size q → H1[q]? = H[q]?) (hF : ∀ q, va_A (cW cI cZ a C) H.size q → A q) (hP1 : va_P D cl (cW cI cZ a C1) H1) (hD1 : va_D (va_A (cW cI cZ a C) H.size) (cW cI cZ a C1)) : va_P D cl (lW cI cZ cL a ao d C1 G M) H1 ∧ va_D A (lW cI cZ cL a ao d C1 G M) := by
  obtain ⟨hP, hD⟩ := va_join (wr := [(ao, .inl (cL, 1, .inr (.inl G)))] ++ mW cI cZ d M) (w1 := cW cI cZ a C1) hP hD [0, 1, 2, 3, 4, 5, 6, 7, 8, 9, 10, 11, 12, 13, 14, 15, 16, 17, 18, 19, 20, 21, 22, 23, 24, 25, 26, 27] [28, 29, 30, 31, 32, 33, 34, 35, 36, 37, 38, 39, 40, 41, 42, 43, 44, 45, 46, 47, 48, 49, 50, 51, 52] rfl rfl (by decide +kernel) (by decide +kernel) hk hF hP1 hD1
  exact ⟨hP.sub [25, 26, 27, 28, 29, 30, 31, 32, 33, 34, 35, 36, 37, 38, 39, 40, 41, 42, 43, 44, 45, 46, 47, 48, 49, 50, 51, 52, 0, 1, 2, 3, 4, 5, 6, 7, 8, 9, 10, 11, 12, 13, 14, 15, 16, 17, 18, 19, 20, 21, 22, 23, 24] rfl, hD.sub [25, 26, 27, 28, 29, 30, 31, 32, 33, 34, 35, 36, 37, 38, 39, 40, 41, 42, 43, 44, 45, 46, 47, 48, 49, 50, 51, 52, 0, 1, 2, 3, 4, 5, 6, 7, 8, 9, 10, 11, 12, 13, 14, 15, 16, 17, 18, 19, 20, 21, 22, 23, 24] (by decide +kernel) rfl⟩
set_option maxHeartbeats 4000000 in
set_option maxRecDepth 100000 in
theorem lJ_m {A : Nat → Prop} {D : va_G} {cl : List vw_C} {cI cZ cL : ClassId} {a d : Nat → Nat} {ao : Nat} {C M : St} {G : Nat → Int64} {H : Heap} {H1 : Heap} {M1 : St} (hP : va_P D cl (lW cI cZ cL a ao d C G M) H) (hD : va_D A (lW cI cZ cL a ao d C G M)) (hk : ∀ q : Nat, q < H.size → ¬ va_A (mW cI cZ d M) H.size q → H1[q]? = H[q]?) (hF : ∀ q, va_A (mW cI cZ d M) H.size q → A q) (hP1 : va_P D cl (mW cI cZ d M1) H1) (hD1 : va_D (va_A (mW cI cZ d M) H.size) (mW cI cZ d M1)) : va_P D cl (lW cI cZ cL a ao d C G M1) H1 ∧ va_D A (lW cI cZ cL a ao d C G M1) := by
  obtain ⟨hP, hD⟩ := va_join (wr := cO cI cZ cL a ao C G) (w1 := mW cI cZ d M1) hP hD [29, 30, 31, 32, 33, 34, 35, 36, 37, 38, 39, 40, 41, 42, 43, 44, 45, 46, 47, 48, 49, 50, 51, 52] [0, 1, 2, 3, 4, 5, 6, 7, 8, 9, 10, 11, 12, 13, 14, 15, 16, 17, 18, 19, 20, 21, 22, 23, 24, 25, 26, 27, 28] rfl rfl (by decide +kernel) (by decide +kernel) hk hF hP1 hD1
  exact ⟨hP.sub [0, 1, 2, 3, 4, 5, 6, 7, 8, 9, 10, 11, 12, 13, 14, 15, 16, 17, 18, 19, 20, 21, 22, 23, 24, 25, 26, 27, 28, 29, 30, 31, 32, 33, 34, 35, 36, 37, 38, 39, 40, 41, 42, 43, 44, 45, 46, 47, 48, 49, 50, 51, 52] rfl, hD.sub [0, 1, 2, 3, 4, 5, 6, 7, 8, 9, 10, 11, 12, 13, 14, 15, 16, 17, 18, 19, 20, 21, 22, 23, 24, 25, 26, 27, 28, 29, 30, 31, 32, 33, 34, 35, 36, 37, 38, 39, 40, 41, 42, 43, 44, 45, 46, 47, 48, 49, 50, 51, 52] (by decide +kernel) rfl⟩
