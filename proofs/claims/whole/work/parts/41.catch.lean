/-! a call that throws, and who catches it -/
def th_No (C D : String) (U : State) : Prop := ∃ c d, U.vm.findClass C = some c ∧ U.vm.findClass D = some d ∧ U.vm.assignable c d = false
theorem th_No.moved {C D : String} {u U : State} (hvm : u.vm.Alike U.vm) (h : th_No C D u) : th_No C D U := by
  obtain ⟨c, d, h1, h2, h3⟩ := h
  exact ⟨c, d, by rw [hvm.findClass]; exact h1, by rw [hvm.findClass]; exact h2, by rw [hvm.assignable]; exact h3⟩
theorem th_self (vm : Vm) (c : ClassId) : vm.assignable c c = true := by
  show vm.assignableAux (255 + 1) c c = true
  rw [Vm.assignableAux]
  simp only [beq_self_eq_true, Bool.true_or]
/-- the first row of the table that takes an object of class C thrown at pc leads to hp -/
def th_tab (own C : String) (args : Array Value) (s : State) (pc : Nat) : List ExceptionTableEntry → Nat → Prop
  | [], _ => False
  | x :: t, hp => covers x pc = true ∧ x.catchType ≠ 0 ∧ ∃ D, (Cond.classLink own x.catchType D).before args s = true ∧ ((D = C ∧ x.handlerPc = hp) ∨ (th_No C D s ∧ th_tab own C args s pc t hp))
section TH2
variable {p : Program} {l : Launch} {e : Env} {R : Room} {s : State} {m : MethodId} {args : Array Value} {below : List Frame} {meth : Method} {c : Code} {T : State} {locs : List Loc} {cells slots : Nat}
theorem th_row {f : JFrame} {a : Addr} {S : State} {x : ExceptionTableEntry} {t : List ExceptionTableEntry} {c : ClassId} {cell : Cell} (hx : covers x f.pc = true) (h0 : x.catchType ≠ 0)
    (hl : S.vm.ClassLinks e.platform f.method.cls x.catchType c) (hcell : S.heap[a]? = some cell) (hobj : ∀ k, cell.vm ≠ .statics k) (hk : ∃ k, S.vm.classes[cell.cls]? = some k) (hc : ∃ k, S.vm.classes[c]? = some k)
    (Q : Handler → Pre) (E : CtlPost) (d : Bool) (acts : List Action) :
    wp (findHandler.go f a (x :: t)) Q E e d acts S ↔ if S.vm.assignable cell.cls c = true then Q (.found x.handlerPc) d acts (S.setVm (S.vm.noted f.method.cls x.catchType (.cls c)))
      else wp (findHandler.go f a t) Q E e d acts (S.setVm (S.vm.noted f.method.cls x.catchType (.cls c))) := by
  simp only [covers] at hx
  obtain ⟨ha, ht⟩ := (resolveClass_links e.toSetting hl).op (op := VmOp.resolveClass f.method.cls x.catchType) rfl
  have hal : S.vm.Alike (S.vm.noted f.method.cls x.catchType (.cls c)) := (Vm.Alike.refl S.vm).noted _ _ _
  obtain ⟨k1, hk1⟩ := hk
  obtain ⟨k2, hk2⟩ := hc
  obtain ⟨k1', hk1', -⟩ := hal.2.2 _ _ hk1
  obtain ⟨k2', hk2', -⟩ := hal.2.2 _ _ hk2
  have hfit := hal.assignable cell.cls c
  cases hq : S.vm.assignable cell.cls c <;> rw [hq] at hfit <;> simp [findHandler.go, hx, h0, ha, ht, hcell, hobj, hk1', hk2', hfit, VmOp.dirties, VmOp.acts]
theorem th_search {own C : String} {f : JFrame} {a : Addr} {cell : Cell} {hp : Nat} (hpl : e.platform.magicAccessors = ({} : Platform).magicAccessors) (hown : s.vm.findClass own = some f.method.cls) (hobj : ∀ k, cell.vm ≠ .statics k) (hC : s.vm.findClass C = some cell.cls) :
    ∀ (tab : List ExceptionTableEntry) (S : State), s.WarmedH S.vm → S.heap[a]? = some cell → th_tab own C args s f.pc tab hp →
      ∃ vm', s.WarmedH vm' ∧ ∀ (Q : Handler → Pre) (E : CtlPost) (d : Bool) (acts : List Action), wp (findHandler.go f a tab) Q E e d acts S ↔ Q (.found hp) d acts (S.setVm vm') := by
  intro tab
  induction tab with
  | nil => intro S _ _ h; exact h.elim
  | cons x t ih =>
    intro S hW hcell h
    obtain ⟨hx, h0, D, hlink, h⟩ := h
    obtain ⟨cD, hcD, hl⟩ := Cond.classLink_spec hown hlink e.platform hpl
    obtain ⟨dk, _, _, kt, hd, _, _, _, _, hkt, _, hopen⟩ := hl.here
    obtain ⟨kt', hkt', -⟩ := hW.alike.2.2 _ _ hkt
    obtain ⟨k0, hk0⟩ := Vm.classAt_of_findClass hC
    obtain ⟨k0', hk0', -⟩ := hW.alike.2.2 _ _ hk0
    have hrow := th_row (e := e) (t := t) hx h0 (hW.classLinks hl) hcell hobj ⟨k0', hk0'⟩ ⟨kt', hkt'⟩
    have hW' := hW.noted hd hopen (State.rightAt_cls hl)
    rcases h with ⟨rfl, rfl⟩ | ⟨⟨c1, d1, q1, q2, q3⟩, h⟩
    · cases hC.symm.trans hcD
      refine ⟨_, hW', fun Q E d acts => ?_⟩
      rw [hrow Q E d acts, if_pos (th_self _ _)]
    · cases hC.symm.trans q1
      cases hcD.symm.trans q2
      obtain ⟨vm', hv, hq⟩ := ih (S.setVm (S.vm.noted f.method.cls x.catchType (.cls cD))) hW' hcell h
      refine ⟨vm', hv, fun Q E d acts => ?_⟩
      rw [hrow Q E d acts, if_neg (by rw [hW.alike.assignable, q3]; decide)]
      exact hq Q E d acts
theorem th_caught (X : Stand p l e R s m args below meth c T locs cells slots) (a : Addr) {g : JFrame} (hg : g.method = m) {cell : Cell} (hcell : T.heap[a]? = some cell) (hvm : cell.vm = .none) {own C : String} (hC : s.vm.findClass C = some cell.cls) (hown : s.vm.findClass own = some m.cls) {hp : Nat}
    (ht : th_tab own C args s g.pc c.exceptionTable.toList hp) : ∃ vm', Stand p l e R s m args below meth c (T.setVm vm') locs cells slots ∧
      ∀ target, Steps p.tables e below ((T.setVm vm').setTop { g with pc := hp, stack := [.ref a] }) target → Steps p.tables e below ((T.setTop g).pushFrame (.throwing a)) target := by
  subst hg
  have hpl : e.platform.magicAccessors = ({} : Platform).magicAccessors := by rw [X.admits.platform]
  obtain ⟨vm', hW', hf⟩ := th_search (e := e) (f := g) (a := a) (cell := cell) hpl hown (by rw [hvm]; exact fun k h => by cases h) hC c.exceptionTable.toList ((T.setTop g).pushFrame (.throwing a)) X.warmed hcell ht
  refine ⟨vm', X.noted hW', fun target hrest => ?_⟩
  have hfind : ∀ (Q : Handler → Pre) (E : CtlPost) (d : Bool) (acts : List Action), wp (findHandler g a) Q E e d acts ((T.setTop g).pushFrame (.throwing a)) ↔ Q (.found hp) d acts (((T.setTop g).pushFrame (.throwing a)).setVm vm') := by
    intro Q E d acts
    rw [W.findHandler_eq (s := (T.setTop g).pushFrame (.throwing a)) (meth := meth) (code := c) X.method' X.code]
    exact hf Q E d acts
  have hstep : (stepThrowing e ((T.setTop g).pushFrame (.throwing a)) a (.java g :: T.frames.tail)).Is ((((T.setTop g).pushFrame (.throwing a)).setVm vm').setFrames (.java { g with pc := hp, stack := [.ref a] } :: T.frames.tail)) [] := by
    simp only [stepThrowing, searchFrame, vmDo]
    generalize hr : Sem.go _ e false [] ((T.setTop g).pushFrame (.throwing a)) = res
    obtain ⟨as, rfl, ha⟩ := Sem.eq_ok_of hr (a := Handler.found hp) (s' := ((T.setTop g).pushFrame (.throwing a)).setVm vm') (acts' := []) (by simp [hfind _ _ _ _])
    exact ⟨rfl, ha⟩
  obtain ⟨hgo, hw⟩ := X.here.throwing a
  refine Steps.head hgo hw ?_
  rw [stepThread_throwing (frames_entered X.here.top _), hstep.1]
  obtain ⟨g₀, hr⟩ := X.frames_eq
  have hr' : (T.setVm vm').frames = .java g₀ :: below := hr
  rw [State.setTop_of_frames _ hr'] at hrest
  have e1 : (((T.setTop g).pushFrame (.throwing a)).setVm vm').setFrames (.java { g with pc := hp, stack := [.ref a] } :: T.frames.tail) = (T.setVm vm').setFrames (.java { g with pc := hp, stack := [.ref a] } :: below) := by
    rw [X.tail, State.pushFrame, State.setTop_of_frames _ hr]
    have h1 : ∀ (u : State) (F : List Frame), (u.setFrames F).setVm vm' = (u.setVm vm').setFrames F := fun _ _ => rfl
    rw [h1, State.setFrames_setFrames, h1, State.setFrames_setFrames]
  rw [e1]
  exact hrest
/-- the callee's run, whatever its end -/
theorem th_go (X : Stand p l e R s m args below meth c T locs cells slots) {g : JFrame} (hg : g.method = m) (hsize : g.locals.size = c.maxLocals) {ig : Instr} {len : Nat} (hdg : decode c.code g.pc = .ok (ig, len)) {y : MethodName} {ws : List Cond} {rm : Room} {Pc : Array Value → State → Prop} {Qf : Array Value → State → Outcome → State → Prop}
    (hM : MetFree l y (headSpec ws rm) Pc (fun _ _ _ _ _ => True) Qf) {mk : MethodId} {a : Array Value} (hn : T.methodNamed? y = some mk) {methY : Method} {cY : Code} (hmY : T.vm.method? mk = some methY) (hcY : methY.code = some cY) (hini : (Cond.initialized y.cls).before a T = true) (hws : ∀ w ∈ ws, w.before a T = true)
    (hframes : rm.frames + 1 ≤ R.frames) (hlocals : 2 * g.monitorRoom + (g.stack.map fun v => v.category).sum + (cY.maxLocals + 11) + rm.locals ≤ R.locals) (hcells : cells + rm.cells ≤ R.cells) (hslots : slots + rm.slots ≤ R.slots) (hP : Pc a (T.calling g mk a)) :
    ∃ o t, Steps p.tables e below (doInvoke e (T.setTop g) [] mk a).1 t ∧ Ended t (.java g :: below) o ∧ Qf a (T.calling g mk a) o t := by
  obtain ⟨kY, hkY, -⟩ := className_of_methodNamed hn
  have hinitY : kY.init = .initialized := Cond.initialized_spec (findClass_of_methodNamed hn) hkY hini
  have h : At T g.method c below := by rw [hg]; exact X.here
  have happ : (headSpec ws rm).appliesLoose y e.platform (T.calling g mk a) = true := Spec.appliesLoose_calling (g := g) h hdg hn hkY hinitY (X.room_calling (g := g) (R' := rm) hsize hmY hcY hframes hlocals hcells hslots) (atoms_intro hws)
  have hfr : (T.setTop g).frames = (.java g :: []) ++ below := by rw [State.frames_setTop' g h.top, X.tail]; rfl
  obtain ⟨o, t, hsteps, -, hend, hq⟩ := Steps.callFree hM p X.admits X.cas X.clock (acts := []) hfr happ hP trivial
  rw [State.frames_setTop' g h.top, X.tail] at hend
  exact ⟨o, t, hsteps, hend, hq⟩
end TH2
