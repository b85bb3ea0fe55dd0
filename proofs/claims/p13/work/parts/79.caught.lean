/-! A throw that comes back into a frame whose table catches it: the search may pass rows that cover the place, and note what they link to. -/
theorem ct_row {e : Env} {f : JFrame} {a : Addr} {S : State} {x : ExceptionTableEntry} {t : List ExceptionTableEntry} {k : ClassId} {ce : Cell} (hx : covers x f.pc = true) (h0 : x.catchType ≠ 0) (hl : S.vm.ClassLinks e.platform f.method.cls x.catchType k) (hce : S.heap[a]? = some ce) (hv : ∀ j, ce.vm ≠ .statics j) (h1 : ∃ q, S.vm.classes[ce.cls]? = some q) (h2 : ∃ q, S.vm.classes[k]? = some q) (Q : Handler → Pre) (E : CtlPost) (d : Bool) (acts : List Action) :
    wp (findHandler.go f a (x :: t)) Q E e d acts S ↔ if S.vm.assignable ce.cls k = true then Q (.found x.handlerPc) d acts (S.setVm (S.vm.noted f.method.cls x.catchType (.cls k))) else wp (findHandler.go f a t) Q E e d acts (S.setVm (S.vm.noted f.method.cls x.catchType (.cls k))) := by
  simp only [covers] at hx
  obtain ⟨g1, g2⟩ := (resolveClass_links e.toSetting hl).op (op := VmOp.resolveClass f.method.cls x.catchType) rfl
  have al : S.vm.Alike (S.vm.noted f.method.cls x.catchType (.cls k)) := (Vm.Alike.refl S.vm).noted _ _ _
  obtain ⟨q1, e1⟩ := h1
  obtain ⟨q2, e2⟩ := h2
  obtain ⟨r1, f1, -⟩ := al.2.2 _ _ e1
  obtain ⟨r2, f2, -⟩ := al.2.2 _ _ e2
  have sa := al.assignable ce.cls k
  cases hb : S.vm.assignable ce.cls k with
  | true =>
    rw [hb] at sa
    simp [findHandler.go, hx, h0, g1, g2, hce, hv, f1, f2, sa, VmOp.dirties, VmOp.acts]
  | false =>
    rw [hb] at sa
    simp [findHandler.go, hx, h0, g1, g2, hce, hv, f1, f2, sa, VmOp.dirties, VmOp.acts]
/-- the search goes past the rows ahead and stops at the row that takes the thrown one -/
theorem ct_walk {e : Env} {s0 : State} {f : JFrame} {a : Addr} {ce : Cell} {x : ExceptionTableEntry} {suf : List ExceptionTableEntry} {k : ClassId} (hv : ∀ j, ce.vm ≠ .statics j) (h1 : ∃ q, s0.vm.classes[ce.cls]? = some q) (hx : covers x f.pc = true) (h0 : x.catchType ≠ 0) (hl : s0.vm.ClassLinks e.platform f.method.cls x.catchType k) (hk : s0.vm.assignable ce.cls k = true) :
    ∀ (pre : List ExceptionTableEntry) (S : State), s0.WarmedH S.vm → S.heap[a]? = some ce → (∀ z ∈ pre, covers z f.pc = false ∨ (z.catchType ≠ 0 ∧ ∃ j, s0.vm.ClassLinks e.platform f.method.cls z.catchType j ∧ s0.vm.assignable ce.cls j = false)) →
      ∃ V, s0.WarmedH V ∧ ∀ (Q : Handler → Pre) (E : CtlPost) (d : Bool) (acts : List Action), wp (findHandler.go f a (pre ++ x :: suf)) Q E e d acts S ↔ Q (.found x.handlerPc) d acts (S.setVm V) := by
  obtain ⟨q1, e1⟩ := h1
  intro pre
  induction pre with
  | nil =>
    intro S hW hc _
    obtain ⟨r1, f1, -⟩ := hW.alike.2.2 _ _ e1
    obtain ⟨dk, _, _, kt, hd, _, _, _, _, hkt, _, ho⟩ := hl.here
    obtain ⟨r2, f2, -⟩ := hW.alike.2.2 _ _ hkt
    refine ⟨_, hW.noted hd ho (State.rightAt_cls hl), fun Q E d acts => ?_⟩
    rw [List.nil_append, ct_row hx h0 (hW.classLinks hl) hc hv ⟨r1, f1⟩ ⟨r2, f2⟩, if_pos (by rw [hW.alike.assignable]; exact hk)]
  | cons z zs ih =>
    intro S hW hc hp
    have hz := hp z List.mem_cons_self
    have hzs := fun y hy => hp y (List.mem_cons_of_mem _ hy)
    cases hcv : covers z f.pc with
    | false =>
      obtain ⟨V, hV, hq⟩ := ih S hW hc hzs
      refine ⟨V, hV, fun Q E d acts => ?_⟩
      rw [List.cons_append, W.findHandler_go_skip hcv]
      exact hq Q E d acts
    | true =>
      rcases hz with h | ⟨hz0, j, hj, hno⟩
      · rw [h] at hcv; cases hcv
      · obtain ⟨r1, f1, -⟩ := hW.alike.2.2 _ _ e1
        obtain ⟨dk, _, _, kt, hd, _, _, _, _, hkt, _, ho⟩ := hj.here
        obtain ⟨r2, f2, -⟩ := hW.alike.2.2 _ _ hkt
        obtain ⟨V, hV, hq⟩ := ih (S.setVm (S.vm.noted f.method.cls z.catchType (.cls j))) (hW.noted hd ho (State.rightAt_cls hj)) hc hzs
        refine ⟨V, hV, fun Q E d acts => ?_⟩
        rw [List.cons_append, ct_row hcv hz0 (hW.classLinks hj) hc hv ⟨r1, f1⟩ ⟨r2, f2⟩, if_neg (by rw [hW.alike.assignable, hno]; decide)]
        exact hq Q E d acts
/-- from the note that something was thrown, over the frame, to the frame at its handler -/
theorem ct_step {tb : Tables} {e : Env} {s : State} {g : JFrame} {c : Code} {below : List Frame} {a : Addr} {pc : Nat} {V : Vm} (h : At s g.method c below)
    (hf : ∀ (Q : Handler → Pre) (E : CtlPost) (d : Bool) (acts : List Action), wp (findHandler g a) Q E e d acts ((s.setTop g).pushFrame (.throwing a)) ↔ Q (.found pc) d acts (((s.setTop g).pushFrame (.throwing a)).setVm V)) :
    Steps tb e below ((s.setTop g).pushFrame (.throwing a)) ((s.setVm V).setTop { g with pc := pc, stack := [.ref a] }) := by
  obtain ⟨hgo, hw⟩ := h.throwing a
  obtain ⟨g0, hg⟩ := Option.isSome_iff_exists.mp h.top
  obtain ⟨r, hr⟩ := State.topJava?_eq_some.mp hg
  have key : ∀ r9, (stepThrowing e ((s.setTop g).pushFrame (.throwing a)) a (.java g :: r9)).Is ((((s.setTop g).pushFrame (.throwing a)).setVm V).setFrames (.java { g with pc := pc, stack := [.ref a] } :: r9)) [] := by
    intro r9
    simp only [stepThrowing, searchFrame, vmDo]
    generalize hres : Sem.go _ e false [] ((s.setTop g).pushFrame (.throwing a)) = res
    obtain ⟨as, rfl, ha⟩ := Sem.eq_ok_of hres (a := Handler.found pc) (s' := ((s.setTop g).pushFrame (.throwing a)).setVm V) (acts' := []) (by simp [hf _ _ _ _])
    exact ⟨rfl, ha⟩
  refine Steps.head hgo hw ?_
  rw [stepThread_throwing (frames_entered h.top _), (key _).1]
  have hr' : (s.setVm V).frames = .java g0 :: r := hr
  have mv : ∀ (u : State) (F G : List Frame), ((u.setFrames F).setVm V).setFrames G = (u.setVm V).setFrames G := fun u F G => by
    rw [show (u.setFrames F).setVm V = (u.setVm V).setFrames F from rfl, State.setFrames_setFrames]
  rw [State.setTop_of_frames _ hr', hr, List.tail_cons, State.pushFrame, mv, State.setTop_of_frames _ hr, mv]
  exact Steps.refl _
section CtRows
variable {p : Program} {l : Launch} {e : Env} {R : Room} {s : State} {m : MethodId} {args : Array Value} {below : List Frame} {meth : Method} {c : Code} {H : Heap} {locs : List Loc} {cells slots : Nat} {Q : State → Prop} {pc : Nat} {ls : Array Slot} {rest : List Value}
/-- caught by the row x of the method's own table; the rows ahead of it don't take it -/
theorem ct_catch {own name : String} {E : String} {ce : Cell} {q : Addr} (hown : s.vm.findClass own = some m.cls) (pre : List ExceptionTableEntry) (x : ExceptionTableEntry) (suf : List ExceptionTableEntry) (hsplit : c.exceptionTable.toList = pre ++ x :: suf)
    (hpass : ∀ z ∈ pre, covers z pc = false ∨ (z.catchType ≠ 0 ∧ ∃ nm : String, (Cond.classLink own z.catchType nm).before args s = true ∧ va_Nc E nm s)) (hx : covers x pc = true) (h0 : x.catchType ≠ 0)
    (hlink : (Cond.classLink own x.catchType name).before args s = true) (hcast : (Cond.castable E name).before args s = true) (hcell : H[q]? = some ce) (hv : ce.vm = .none) (hcl : s.vm.findClass E = some ce.cls)
    (kk : W p l e R s m args below meth c H locs cells slots Q (F0 m x.handlerPc ls [.ref q])) : vx_W p l e R s m args below meth c H locs cells slots Q (F0 m pc ls rest) q := by
  intro T hT X
  have hpl : e.platform.magicAccessors = ({} : Platform).magicAccessors := by rw [X.admits.platform]
  obtain ⟨k3, k4, w3, w4, hasg⟩ := Cond.castable_spec hcast
  cases Option.some.inj (w3.symm.trans hcl)
  obtain ⟨k5, w5, hl5⟩ := Cond.classLink_spec hown hlink e.platform hpl
  cases Option.some.inj (w4.symm.trans w5)
  obtain ⟨V, hV, hq⟩ := ct_walk (e := e) (s0 := s) (f := F0 m pc ls rest) (a := q) (ce := ce) (suf := suf) (VmData.ne_statics_of (by rw [hv]; rfl)) (by obtain ⟨k9, h9, -⟩ := Vm.findClass_spec hcl; exact ⟨k9, h9⟩) hx h0 hl5 hasg pre ((T.setTop (F0 m pc ls rest)).pushFrame (.throwing q)) X.warmed (by rw [← hT] at hcell; exact hcell)
    (fun z hz => by
      rcases hpass z hz with h | ⟨hz0, nm, hl1, hn1⟩
      · exact Or.inl h
      · obtain ⟨k6, w6, hl6⟩ := Cond.classLink_spec hown hl1 e.platform hpl
        obtain ⟨a8, b8, g1, g2, g3⟩ := hn1
        cases Option.some.inj (g1.symm.trans hcl)
        cases Option.some.inj (g2.symm.trans w6)
        exact Or.inr ⟨hz0, _, hl6, g3⟩)
  obtain ⟨t, a1, b1⟩ := kk (T.setVm V) hT (X.noted hV)
  refine ⟨t, (ct_step (g := F0 m pc ls rest) X.here (fun Q' E' d' acts' => ?_)).trans a1, b1⟩
  rw [W.findHandler_eq (s := (T.setTop (F0 m pc ls rest)).pushFrame (.throwing q)) (f := F0 m pc ls rest) X.method' X.code, hsplit]
  exact hq Q' E' d' acts'
end CtRows
