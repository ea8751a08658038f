section
/-! ===== BEGIN words of one list among another's, by their places ===== -/
theorem goodIn_r {big : List Cond} (ws : List Cond) (ps : List Nat) (hp : ws = ps.filterMap (fun i => big[i]?)) (h : ws.all goodWord = true) : GoodIn big ws := by
  intro w hw
  have h1 := List.all_eq_true.mp h w hw
  rw [hp] at hw
  obtain ⟨i, -, hi⟩ := List.mem_filterMap.mp hw
  have hm : w ∈ big := by first | exact List.mem_of_getElem? hi | exact List.getElem?_mem hi
  exact ⟨hm, good_of_word h1⟩
theorem goodIn_app {big a b : List Cond} (ha : GoodIn big a) (hb : GoodIn big b) : GoodIn big (a ++ b) := fun w h => (List.mem_append.mp h).elim (ha w) (hb w)
theorem goodIn_ca {big a b : List Cond} {c : Cond} (ha : GoodIn big (c :: a)) (hb : GoodIn big b) : GoodIn big (c :: (a ++ b)) := fun w h => (List.mem_cons.mp h).elim (fun e => ha w (List.mem_cons.mpr (Or.inl e))) (fun h => (List.mem_append.mp h).elim (fun h => ha w (List.mem_cons.mpr (Or.inr h))) (hb w))
theorem goodIn_sub {big ws : List Cond} (hm : ∀ w ∈ ws, w ∈ big) (h : ws.all goodWord = true) : GoodIn big ws := fun w hw => ⟨hm w hw, good_of_word (List.all_eq_true.mp h w hw)⟩
/-! ===== END ===== -/

/-! ===== BEGIN exceptions that leave a method, and their catching by the caller (launches without stack traces) ===== -/
section VXA
/-! The laws vx_back, vx_callV, vx_callS, vx_callSW, vx_throw0, vx_throwS follow proofs of the library, with one case more: JvmDerived/Free/Laws.lean (Back.of_free), Shelf42/LK1.lean (callV, callS), Shelf/KitTraced.lean (throwNew0V, throwNewS). -/
/-- where a method has thrown q: the class by its name, the cell, what was written, the world -/
def vx_T (XC : String → State → State → Prop) (st : State) (q : Addr) (t : State) (mc ms : Nat) (free : Addr → Prop) : Prop :=
  ∃ (E : String) (ce : Cell) (L : List Loc), XC E st t ∧ t.heap[q]? = some ce ∧ ce.vm = .none ∧ st.vm.findClass E = some ce.cls ∧ st.WarmedH t.vm ∧ st.sameButNew ({ t with vm := st.vm } : State) L mc ms ∧ ∀ z ∈ L, free z.base
def vx_Q (Qc : Array Value → State → Outcome → State → Prop) (XC : String → State → State → Prop) (mc ms : Nat) (free : Addr → Prop) : Array Value → State → Outcome → State → Prop := fun a st o t =>
  (Qc a st o t ∧ ∃ L, FrameEnd st o t L mc ms ∧ ∀ q ∈ L, free q.base) ∨ ∃ q, o = .threw q ∧ vx_T XC st q t mc ms free
/-- a callee that returns or throws -/
def vx_Met (l : Launch) (y : MethodName) (ws : List Cond) (rm : Room) (Pc : Array Value → State → Prop) (Qc : Array Value → State → Outcome → State → Prop) (XC : String → State → State → Prop) (mc ms : Nat) (free : Addr → Prop) : Prop :=
  MetFree l y (headSpec ws rm) Pc (fun _ _ _ _ _ => True) (vx_Q Qc XC mc ms free)
def vx_Post (XC : String → State → State → Prop) (mc ms : Nat) (free : Addr → Prop) : Pt → Array Value → Addr → Pt → Prop := fun A a q B =>
  ∃ (g : JFrame) (mk : MethodId) (t : State) (L : List Loc) (E : String) (ce : Cell), B.U.heap = t.heap ∧ B.U.vm = t.vm ∧ XC E (A.U.calling g mk a) t ∧ t.heap[q]? = some ce ∧ ce.vm = .none ∧ A.U.vm.findClass E = some ce.cls ∧ B.locs = A.locs ++ L ∧ (∀ z ∈ L, free z.base) ∧ B.cells = A.cells + mc ∧ B.slots = A.slots + ms
def vx_Back (l : Launch) (R : Room) (p : Program) (e : Env) (below : List Frame) (s : State) (sargs : Array Value) (y : MethodName) (len W9 : Nat)
    (Pre : Pt → Array Value → Prop) (Post : Pt → Array Value → Option Value → Pt → Prop) (PostX : Pt → Array Value → Addr → Pt → Prop) : Prop :=
  ∀ (m : MethodId) (meth : Method) (c : Code) (A : Pt) (g : JFrame) (ig : Instr) (mk : MethodId) (a : Array Value),
    Stand p l e R s m sargs below meth c A.U A.locs A.cells A.slots → g.method = m → g.locals.size = c.maxLocals → decode c.code g.pc = .ok (ig, len) →
    2 * g.monitorRoom + (g.stack.map fun v => v.category).sum ≤ W9 → A.U.methodNamed? y = some mk → Pre A a →
    (∃ (v : Option Value) (B : Pt), Stand p l e R s m sargs below meth c B.U B.locs B.cells B.slots ∧ Post A a v B ∧
      Steps p.tables e below (doInvoke e (A.U.setTop g) [] mk a).1 (B.U.setTop { g with pc := g.pc + len, stack := v.toList ++ g.stack })) ∨
    (∃ (q : Addr) (B : Pt), Stand p l e R s m sargs below meth c B.U B.locs B.cells B.slots ∧ PostX A a q B ∧
      Steps p.tables e below (doInvoke e (A.U.setTop g) [] mk a).1 ((B.U.setTop g).pushFrame (.throwing q)))
section Payer
variable {l : Launch} {R : Room} {p : Program} {e : Env} {below : List Frame} {s : State} {sargs : Array Value} {y : MethodName} {len W9 : Nat}
theorem vx_back {ws : List Cond} {rm : Room} {Pc : Array Value → State → Prop} {Qc : Array Value → State → Outcome → State → Prop} {XC : String → State → State → Prop} {mc ms : Nat} {free : Addr → Prop} {bytes : ByteArray} {maxL : Nat} {ret : Option FieldType}
    (hM : vx_Met l y ws rm Pc Qc XC mc ms free) (hblind : FrameBlind Pc) (hrc : rm.cells = mc) (hrs : rm.slots = ms)
    (hframes : rm.frames + 1 ≤ R.frames) (hlocals : W9 + (maxL + 11) + rm.locals ≤ R.locals)
    (hws : ∀ w ∈ ws, ∀ a' U, s.WarmedH U.vm → w.before a' U = true) (hcode : Cond.code y bytes maxL ret ∈ ws) (hinit : ∀ a' U, s.WarmedH U.vm → (Cond.initialized y.cls).before a' U = true) :
    vx_Back l R p e below s sargs y len W9 (PreOf R mc ms Pc) (PostOf Qc mc ms free) (vx_Post XC mc ms free) := by
  intro m meth c A g ig mk a X hg hsize hdg hW hn hp
  have h1 : (headSpec ws rm).pre.before a A.U = true := atoms_intro fun w hw => hws w hw _ _ X.warmed
  have h2 : (Cond.code y bytes maxL ret).before a A.U = true := hws _ hcode _ _ X.warmed
  have h3 : (Cond.initialized y.cls).before a A.U = true := hinit _ _ X.warmed
  have h4 : A.cells + (headSpec ws rm).room.cells ≤ R.cells := by rw [show (headSpec ws rm).room.cells = mc from hrc]; exact hp.1
  have h5 : A.slots + (headSpec ws rm).room.slots ≤ R.slots := by rw [show (headSpec ws rm).room.slots = ms from hrs]; exact hp.2.1
  have hPc : Pc a (A.U.calling g mk a) := hblind _ _ _ _ hp.2.2
  obtain ⟨U, Ls, c0, s0⟩ := A
  dsimp only [Pt.U, Pt.locs, Pt.cells, Pt.slots] at h1 h2 h3 h4 h5 X hn hPc ⊢
  obtain ⟨methY, cY, hmY, hcY, -, hlY, -, -, -, -⟩ := Cond.code_spec hn h2
  obtain ⟨kY, hkY, -⟩ := className_of_methodNamed hn
  have hinitY : kY.init = .initialized := Cond.initialized_spec (findClass_of_methodNamed hn) hkY h3
  have h : At U g.method c below := by rw [hg]; exact X.here
  have hlocals9 : W9 + (maxL + 11) + (headSpec ws rm).room.locals ≤ R.locals := hlocals
  have happ : (headSpec ws rm).appliesLoose y e.platform (U.calling g mk a) = true :=
    Spec.appliesLoose_calling (g := g) h hdg hn hkY hinitY
      (X.room_calling (g := g) (R' := (headSpec ws rm).room) hsize hmY hcY hframes (by rw [hlY]; omega) h4 h5) h1
  obtain ⟨mid, hmid⟩ := h.above
  have hfr : (U.setTop g).frames = (.java g :: mid) ++ below := by rw [State.frames_setTop' g h.top, hmid]; rfl
  obtain ⟨o, s₂, hsteps, -, hend, hq⟩ := Steps.callFree hM p X.admits X.cas X.clock (acts := []) hfr happ hPc trivial
  have hq' : vx_Q Qc XC mc ms free a (U.calling g mk a) o s₂ := hq
  rw [State.frames_setTop' g h.top] at hend
  obtain ⟨g₀, hg0⟩ := Option.isSome_iff_exists.mp h.top
  obtain ⟨r, hr⟩ := State.topJava?_eq_some.mp hg0
  have hr' : (({ U with heap := s₂.heap, slotsUsed := s₂.slotsUsed } : State).setVm s₂.vm).frames = .java g₀ :: r := hr
  rcases hq' with ⟨hqc, L, hfe, hL⟩ | ⟨q, rfl, E, ce, L, hx, hce, hcv, hcl, hW₂, hsm, hL⟩
  · obtain ⟨⟨v, rfl⟩, hW₂, e2, q2, q3, q4, q5, q6⟩ := id hfe
    have e3 : s₂ = ({ (U.calling g mk a).setFrames s₂.frames with heap := s₂.heap, slotsUsed := s₂.slotsUsed } : State).setVm s₂.vm := by
      have : s₂ = ({ s₂ with vm := (U.calling g mk a).vm } : State).setVm s₂.vm := rfl
      rw [e2] at this
      exact this
    obtain ⟨c₂, i₂, len₂, hc₂, hd₂, hf₂⟩ := hend
    have hW' : U.WarmedH s₂.vm := hW₂
    have hcc : c₂ = c := by
      have h1 : s₂.code? g.method = U.code? g.method := by
        rw [State.code?_eq, State.code?_eq, hW'.alike.method?]
      exact Option.some.inj (hc₂.symm.trans (h1.trans h.code))
    subst hcc
    have hlen : len₂ = len := by rw [hdg] at hd₂; cases hd₂; rfl
    subst hlen
    have hs₂ : s₂ = (({ U with heap := s₂.heap, slotsUsed := s₂.slotsUsed } : State).setVm s₂.vm).setTop { g with pc := g.pc + len₂, stack := v.toList ++ g.stack } := by
      refine e3.trans ?_
      rw [hf₂, State.calling_eq h.top, State.setFrames_setFrames, State.setTop_of_frames _ hr', hr]
      rfl
    have hsame : U.sameButNew ({ U with heap := s₂.heap, slotsUsed := s₂.slotsUsed } : State) L mc ms := by
      refine ⟨?_, q2, q3, q4, q5, q6⟩
      obtain ⟨t, ht, -⟩ := State.frames_cons hr
      show ({ U with heap := s₂.heap, slotsUsed := s₂.slotsUsed } : State) = { U.setFrames U.frames with heap := s₂.heap, slotsUsed := s₂.slotsUsed }
      rw [State.setFrames_self ht]
    subst hg
    refine Or.inl ⟨v, ⟨(({ U with heap := s₂.heap, slotsUsed := s₂.slotsUsed } : State).setVm s₂.vm), Ls ++ L, c0 + mc, s0 + ms⟩,
      ⟨X.admits, X.cas, X.clock, X.frames, X.room, X.hears, X.method, X.code, (X.here.setHeapUsed s₂.heap s₂.slotsUsed).setVm hW'.alike, X.tail, State.WarmedH.trans X.warmed hW', X.limits, X.bytes, X.same.trans (hsame.setVm s.vm)⟩,
      ⟨g, mk, s₂, L, rfl, rfl, hqc, rfl, hL, rfl, rfl⟩, ?_⟩
    show Steps p.tables e below _ ((({ U with heap := s₂.heap, slotsUsed := s₂.slotsUsed } : State).setVm s₂.vm).setTop { g with pc := g.pc + len₂, stack := v.toList ++ g.stack })
    rw [← hs₂]
    exact hsteps
  · obtain ⟨e2, q2, q3, q4, q5, q6⟩ := id hsm
    have e3 : s₂ = ({ (U.calling g mk a).setFrames s₂.frames with heap := s₂.heap, slotsUsed := s₂.slotsUsed } : State).setVm s₂.vm := by
      have : s₂ = ({ s₂ with vm := (U.calling g mk a).vm } : State).setVm s₂.vm := rfl
      rw [e2] at this
      exact this
    have hf₂ : s₂.frames = .throwing q :: .java g :: U.frames.tail := hend
    have hW' : U.WarmedH s₂.vm := hW₂
    have hs₂ : s₂ = ((({ U with heap := s₂.heap, slotsUsed := s₂.slotsUsed } : State).setVm s₂.vm).setTop g).pushFrame (.throwing q) := by
      refine e3.trans ?_
      rw [hf₂, State.calling_eq h.top, State.setFrames_setFrames, State.pushFrame, State.frames_setTop _ hr', State.setTop_of_frames _ hr', State.setFrames_setFrames, hr]
      rfl
    have hsame : U.sameButNew ({ U with heap := s₂.heap, slotsUsed := s₂.slotsUsed } : State) L mc ms := by
      refine ⟨?_, q2, q3, q4, q5, q6⟩
      obtain ⟨t, ht, -⟩ := State.frames_cons hr
      show ({ U with heap := s₂.heap, slotsUsed := s₂.slotsUsed } : State) = { U.setFrames U.frames with heap := s₂.heap, slotsUsed := s₂.slotsUsed }
      rw [State.setFrames_self ht]
    subst hg
    refine Or.inr ⟨q, ⟨(({ U with heap := s₂.heap, slotsUsed := s₂.slotsUsed } : State).setVm s₂.vm), Ls ++ L, c0 + mc, s0 + ms⟩,
      ⟨X.admits, X.cas, X.clock, X.frames, X.room, X.hears, X.method, X.code, (X.here.setHeapUsed s₂.heap s₂.slotsUsed).setVm hW'.alike, X.tail, State.WarmedH.trans X.warmed hW', X.limits, X.bytes, X.same.trans (hsame.setVm s.vm)⟩,
      ⟨g, mk, s₂, L, E, ce, rfl, rfl, hx, hce, hcv, hcl, rfl, hL, rfl, rfl⟩, ?_⟩
    show Steps p.tables e below _ (((({ U with heap := s₂.heap, slotsUsed := s₂.slotsUsed } : State).setVm s₂.vm).setTop g).pushFrame (.throwing q))
    rw [← hs₂]
    exact hsteps
end Payer
section Calls
variable {p : Program} {l : Launch} {e : Env} {R : Room} {s : State} {m : MethodId} {args : Array Value} {below : List Frame} {meth : Method} {c : Code} {T : State} {locs : List Loc} {cells slots : Nat}
theorem vx_callV (X : Stand p l e R s m args below meth c T locs cells slots) (hexec : p.tables.exec = Jvm.exec) {own C : String} {index : Nat} {y : MethodName} {bytes : ByteArray} {maxL : Nat} {ret : Option FieldType}
    (hown : s.vm.findClass own = some m.cls) (hlink : (Cond.methodLink own index y).before args s = true) (hinst : (Cond.instanceMethod y).before args s = true) (hsel : (Cond.selects C y y).before args s = true)
    (hcode : (Cond.code y bytes maxL ret).before args s = true) (hy : y.cls ≠ "java/lang/invoke/MethodHandle" ∧ y.cls ≠ "java/lang/invoke/VarHandle")
    {W9 : Nat} {Pre : Pt → Array Value → Prop} {Post : Pt → Array Value → Option Value → Pt → Prop} {PostX : Pt → Array Value → Addr → Pt → Prop} (hK : vx_Back l R p e below s args y 3 W9 Pre Post PostX)
    {b : Addr} {cellB : Cell} (hcell : T.heap[b]? = some cellB) (hobj : cellB.vm.isStatics = false) (hcls : s.vm.findClass C = some cellB.cls)
    {g : JFrame} (hg : g.method = m) (hsize : g.locals.size = c.maxLocals) {argsL rest : List Value} (hlen : ∀ sig, parseMethodDescriptor y.desc = some sig → argsL.length = sig.parameters.length)
    (hstack : g.stack = argsL.reverse ++ .ref b :: rest) (hW : 2 * g.monitorRoom + (rest.map fun v => v.category).sum ≤ W9) (hdg : decode c.code g.pc = .ok (.invokevirtual index, 3))
    (hpre : ∀ vm₁, s.WarmedH vm₁ → Pre ⟨T.setVm vm₁, locs, cells, slots⟩ (Value.ref b :: argsL).toArray) :
    (∃ (v : Option Value) (vm₁ : Vm) (B : Pt), s.WarmedH vm₁ ∧ Stand p l e R s m args below meth c B.U B.locs B.cells B.slots ∧ Post ⟨T.setVm vm₁, locs, cells, slots⟩ (Value.ref b :: argsL).toArray v B ∧
      ∀ target, Steps p.tables e below (B.U.setTop { g with pc := g.pc + 3, stack := v.toList ++ rest }) target → Steps p.tables e below (T.setTop g) target) ∨
    (∃ (q : Addr) (vm₁ : Vm) (B : Pt), s.WarmedH vm₁ ∧ Stand p l e R s m args below meth c B.U B.locs B.cells B.slots ∧ PostX ⟨T.setVm vm₁, locs, cells, slots⟩ (Value.ref b :: argsL).toArray q B ∧
      Steps p.tables e below (T.setTop g) ((B.U.setTop { g with stack := rest }).pushFrame (.throwing q))) := by
  obtain ⟨mk, methM, hnamed, hmethM, hstM, habM⟩ := Cond.instanceMethod_spec hinst
  obtain ⟨methM', cM, hmethM', -, -, -, -, -, -, hsigM⟩ := Cond.code_spec hnamed hcode
  cases hmethM.symm.trans hmethM'
  obtain ⟨c2, r2, m2, q1, q2, q3, q4, kP, hkP, hkPi⟩ := Cond.selects_spec hsel
  cases hcls.symm.trans q1
  cases (State.methodFound?_of_named hnamed hy).symm.trans q2
  cases hnamed.symm.trans q3
  have hselP : selectMethod e.platform s.vm cellB.cls mk = .method mk := by rw [Launch.admits_selectMethod X.admits]; exact q4
  obtain ⟨vm₁, X₁, hstep₁⟩ := X.invokevirtual hexec hown hlink hnamed hmethM hstM hkP hkPi hy (a := b) (cell := cellB) hcell
    (fun z h => by rw [h] at hobj; cases hobj) hselP hmethM habM hkP hkPi (g := g) hg (argsL := argsL) (rest := rest) (hlen _ hsigM) hstack hdg
  rcases hK m meth c ⟨T.setVm vm₁, locs, cells, slots⟩ { g with stack := rest } (.invokevirtual index) mk (Value.ref b :: argsL).toArray X₁ hg hsize hdg hW (X₁.named hnamed) (hpre vm₁ X₁.warmed) with ⟨v, B, X', hpost, hsteps⟩ | ⟨q, B, X', hpost, hsteps⟩
  · exact Or.inl ⟨v, vm₁, B, X₁.warmed, X', hpost, fun target h => hstep₁ _ fun acts => by rw [doInvoke_state]; exact hsteps.trans h⟩
  · exact Or.inr ⟨q, vm₁, B, X₁.warmed, X', hpost, hstep₁ _ fun acts => by rw [doInvoke_state]; exact hsteps⟩
theorem vx_callS (X : Stand p l e R s m args below meth c T locs cells slots) (hexec : p.tables.exec = Jvm.exec) {own : String} {index : Nat} {y : MethodName} {bytes : ByteArray} {maxL : Nat} {ret : Option FieldType}
    (hown : s.vm.findClass own = some m.cls) (hlink : (Cond.methodLink own index y).before args s = true) (hstat : (Cond.static y).before args s = true) (hinit : (Cond.initialized y.cls).before args s = true)
    (hcode : (Cond.code y bytes maxL ret).before args s = true) (hy : y.cls ≠ "java/lang/invoke/MethodHandle" ∧ y.cls ≠ "java/lang/invoke/VarHandle")
    {W9 : Nat} {Pre : Pt → Array Value → Prop} {Post : Pt → Array Value → Option Value → Pt → Prop} {PostX : Pt → Array Value → Addr → Pt → Prop} (hK : vx_Back l R p e below s args y 3 W9 Pre Post PostX)
    {g : JFrame} (hg : g.method = m) (hsize : g.locals.size = c.maxLocals) {argsL rest : List Value} (hlen : ∀ sig, parseMethodDescriptor y.desc = some sig → argsL.length = sig.parameters.length)
    (hstack : g.stack = argsL.reverse ++ rest) (hW : 2 * g.monitorRoom + (rest.map fun v => v.category).sum ≤ W9) (hdg : decode c.code g.pc = .ok (.invokestatic index, 3))
    (hpre : ∀ vm₁, s.WarmedH vm₁ → Pre ⟨T.setVm vm₁, locs, cells, slots⟩ argsL.toArray) :
    (∃ (v : Option Value) (vm₁ : Vm) (B : Pt), s.WarmedH vm₁ ∧ Stand p l e R s m args below meth c B.U B.locs B.cells B.slots ∧ Post ⟨T.setVm vm₁, locs, cells, slots⟩ argsL.toArray v B ∧
      ∀ target, Steps p.tables e below (B.U.setTop { g with pc := g.pc + 3, stack := v.toList ++ rest }) target → Steps p.tables e below (T.setTop g) target) ∨
    (∃ (q : Addr) (vm₁ : Vm) (B : Pt), s.WarmedH vm₁ ∧ Stand p l e R s m args below meth c B.U B.locs B.cells B.slots ∧ PostX ⟨T.setVm vm₁, locs, cells, slots⟩ argsL.toArray q B ∧
      Steps p.tables e below (T.setTop g) ((B.U.setTop { g with stack := rest }).pushFrame (.throwing q))) := by
  obtain ⟨mk, hnamed⟩ := Cond.code_named hcode
  obtain ⟨methM, cM, hmethM, -, -, -, -, -, -, hsigM⟩ := Cond.code_spec hnamed hcode
  have hstatic : methM.isStatic = true := Cond.static_spec hnamed hmethM hstat
  obtain ⟨kP, hkP, -⟩ := className_of_methodNamed hnamed
  have hinitP : kP.init = .initialized := Cond.initialized_spec (findClass_of_methodNamed hnamed) hkP hinit
  obtain ⟨vm₁, X₁, hstep₁⟩ := X.invokestatic hexec hown hlink hnamed hmethM hstatic hkP hinitP hy (g := g) hg (argsL := argsL) (rest := rest) (hlen _ hsigM) hstack hdg
  rcases hK m meth c ⟨T.setVm vm₁, locs, cells, slots⟩ { g with stack := rest } (.invokestatic index) mk argsL.toArray X₁ hg hsize hdg hW (X₁.named hnamed) (hpre vm₁ X₁.warmed) with ⟨v, B, X', hpost, hsteps⟩ | ⟨q, B, X', hpost, hsteps⟩
  · exact Or.inl ⟨v, vm₁, B, X₁.warmed, X', hpost, fun target h => hstep₁ _ fun acts => by rw [doInvoke_state]; exact hsteps.trans h⟩
  · exact Or.inr ⟨q, vm₁, B, X₁.warmed, X', hpost, hstep₁ _ fun acts => by rw [doInvoke_state]; exact hsteps⟩
end Calls
theorem vx_cls {s : State} {T : State} {vm₁ : Vm} {E : String} {k : ClassId} (hW : s.WarmedH vm₁) (h : (T.setVm vm₁).vm.findClass E = some k) : s.vm.findClass E = some k := by
  have h1 : vm₁.findClass E = some k := h
  rw [hW.alike.findClass] at h1
  exact h1
/-- the method's frame g, with q thrown over it -/
def vx_W (p : Program) (l : Launch) (e : Env) (R : Room) (s : State) (m : MethodId) (args : Array Value) (below : List Frame) (meth : Method) (c : Code) (H : Heap) (locs : List Loc) (cells slots : Nat) (Q : State → Prop) (g : JFrame) (q : Addr) : Prop :=
  ∀ T : State, T.heap = H → Stand p l e R s m args below meth c T locs cells slots → ∃ t, Steps p.tables e below ((T.setTop g).pushFrame (.throwing q)) t ∧ Q t
def vx_Run (p : Program) (l : Launch) (e : Env) (R : Room) (s : State) (m : MethodId) (args : Array Value) (below : List Frame) (meth : Method) (c : Code) (H : Heap) (locs : List Loc) (cells slots mc ms : Nat) (g : JFrame) (rest : List Value) (Qa : State → Outcome → State → Prop) (XC : String → State → State → Prop) (free : Addr → Prop) : Prop :=
  ∀ T : State, T.heap = H → Stand p l e R s m args below meth c T locs cells slots →
    (∃ (v : Option Value) (st₀ t T' : State) (L : List Loc), st₀.heap = H ∧ Stand p l e R s m args below meth c T' (locs ++ L) (cells + mc) (slots + ms) ∧ (∀ q ∈ L, free q.base) ∧ T'.heap = t.heap ∧ T'.vm = t.vm ∧ Qa st₀ (.returned v) t ∧
      Goes p e below T g T' { g with pc := g.pc + 3, stack := v.toList ++ rest }) ∨
    (∃ (q : Addr) (st₀ t T' : State) (L : List Loc) (E : String) (ce : Cell), st₀.heap = H ∧ Stand p l e R s m args below meth c T' (locs ++ L) (cells + mc) (slots + ms) ∧ (∀ z ∈ L, free z.base) ∧ T'.heap = t.heap ∧ T'.vm = t.vm ∧ XC E st₀ t ∧ t.heap[q]? = some ce ∧ ce.vm = .none ∧ s.vm.findClass E = some ce.cls ∧
      Steps p.tables e below (T.setTop g) ((T'.setTop { g with stack := rest }).pushFrame (.throwing q)))
def vx_X {S : Type} (px : S → Prop) (B : String → S → State → Prop) (A : Nat → Prop) : String → State → State → Prop := fun E st t => ∃ u : S, px u ∧ B E u t ∧ va_F A st t
section Runs
variable {p : Program} {l : Launch} {e : Env} {R : Room} {s : State} {m : MethodId} {args : Array Value} {below : List Frame} {meth : Method} {c : Code} {H : Heap} {locs : List Loc} {cells slots : Nat}
variable {y : MethodName} {bytes cc : ByteArray} {maxL nL mc ms n index : Nat} {ret : Option FieldType} {ws : List Cond} {rm : Room} {Pc : Array Value → State → Prop} {Qc : Array Value → State → Outcome → State → Prop} {XC : String → State → State → Prop} {free : Addr → Prop} {Ts : List Cond} {own C : String} {b : Addr} {As rest : List Value} {g : JFrame}
theorem vx_callBack (cb : CallB R s args own index y bytes maxL ret ws rm mc ms n) (hM : vx_Met l y ws rm Pc Qc XC mc ms free) (hbl : FrameBlind Pc) : vx_Back l R p e below s args y 3 8 (PreOf R mc ms Pc) (PostOf Qc mc ms free) (vx_Post XC mc ms free) := by
  obtain ⟨hrc, hrs, hfr, hlo, hws, hcw, -, hini, -⟩ := cb
  exact vx_back (bytes := bytes) (maxL := maxL) (ret := ret) hM hbl hrc hrs hfr hlo hws hcw (fun a' U hW => word_at hW (Or.inl (by first | rfl | simp [Cond.onTables, Cond.keeps, Cond.steady])) hini)
theorem vx_runV (S : CallFix p m c cc nL s args Ts own) (hM : vx_Met l y ws rm Pc Qc XC mc ms free) (cw : CallW R s args own C index y bytes maxL ret ws rm mc ms n) (hp : PreV s H C b Pc As)
    (hg : g.method = m) (hn : As.length = n) (hsize : g.locals.size = nL) (hstack : g.stack = As.reverse ++ .ref b :: rest) (hW : 2 * g.monitorRoom + (rest.map fun v => v.category).sum ≤ 8) (hdg : decode cc g.pc = .ok (.invokevirtual index, 3)) (hf : cells + mc ≤ R.cells ∧ slots + ms ≤ R.slots) :
    vx_Run p l e R s m args below meth c H locs cells slots mc ms g rest (Qc (Value.ref b :: As).toArray) XC free := by
  have hK : vx_Back l R p e below s args y 3 8 (PreOf R mc ms Pc) (PostOf Qc mc ms free) (vx_Post XC mc ms free) := vx_callBack cw.1 hM hp.1
  obtain ⟨⟨-, -, -, -, -, -, hcode, -, hy, hlen, hl⟩, hin, hse⟩ := cw
  obtain ⟨hx, hb, hml, ho, -⟩ := S
  obtain ⟨-, ⟨cellB, hcB, hoB, hclB⟩, hPc⟩ := hp
  intro T hT X
  rcases vx_callV X hx (C := C) (bytes := bytes) (maxL := maxL) (ret := ret) ho hl hin hse hcode hy hK (by rw [hT]; exact hcB) hoB hclB hg (hsize.trans hml.symm) (argsL := As) (rest := rest) (fun sig h => hn.trans (hlen sig h)) hstack hW (by rw [hb]; exact hdg)
    (fun vm₁ hW₁ => ⟨hf.1, hf.2, hPc (T.setVm vm₁) hT hW₁⟩) with ⟨v, vm₁, ⟨U', l2, c2, s2⟩, hW₁, X', ⟨g', mk, t, L, e1, e2, hq, h1, hL, h2, h3⟩, st⟩ | ⟨q, vm₁, ⟨U', l2, c2, s2⟩, hW₁, X', ⟨g', mk, t, L, E, ce, e1, e2, hq, hce, hcv, hcl, h1, hL, h2, h3⟩, st⟩
  · dsimp only [Pt.U, Pt.locs, Pt.cells, Pt.slots] at X' e1 e2 h1 h2 h3 st
    subst h1; subst h2; subst h3
    exact Or.inl ⟨v, (T.setVm vm₁).calling g' mk (Value.ref b :: As).toArray, t, U', L, hT, X', hL, e1, e2, hq, st⟩
  · dsimp only [Pt.U, Pt.locs, Pt.cells, Pt.slots] at X' e1 e2 h1 h2 h3 st hcl
    subst h1; subst h2; subst h3
    exact Or.inr ⟨q, (T.setVm vm₁).calling g' mk (Value.ref b :: As).toArray, t, U', L, E, ce, hT, X', hL, e1, e2, hq, hce, hcv, vx_cls hW₁ hcl, st⟩
theorem vx_runS (S : CallFix p m c cc nL s args Ts own) (hM : vx_Met l y ws rm Pc Qc XC mc ms free) (cw : CallB R s args own index y bytes maxL ret ws rm mc ms n ∧ (Cond.static y).before args s = true) (hp : PreS s H Pc As)
    (hg : g.method = m) (hn : As.length = n) (hsize : g.locals.size = nL) (hstack : g.stack = As.reverse ++ rest) (hW : 2 * g.monitorRoom + (rest.map fun v => v.category).sum ≤ 8) (hdg : decode cc g.pc = .ok (.invokestatic index, 3)) (hf : cells + mc ≤ R.cells ∧ slots + ms ≤ R.slots) :
    vx_Run p l e R s m args below meth c H locs cells slots mc ms g rest (Qc As.toArray) XC free := by
  have hK : vx_Back l R p e below s args y 3 8 (PreOf R mc ms Pc) (PostOf Qc mc ms free) (vx_Post XC mc ms free) := vx_callBack cw.1 hM hp.1
  obtain ⟨⟨-, -, -, -, -, -, hcode, hini, hy, hlen, hl⟩, hstt⟩ := cw
  obtain ⟨hx, hb, hml, ho, -⟩ := S
  intro T hT X
  rcases vx_callS X hx (bytes := bytes) (maxL := maxL) (ret := ret) ho hl hstt hini hcode hy hK hg (hsize.trans hml.symm) (argsL := As) (rest := rest) (fun sig h => hn.trans (hlen sig h)) hstack hW (by rw [hb]; exact hdg)
    (fun vm₁ hW₁ => ⟨hf.1, hf.2, hp.2 (T.setVm vm₁) hT hW₁⟩) with ⟨v, vm₁, ⟨U', l2, c2, s2⟩, hW₁, X', ⟨g', mk, t, L, e1, e2, hq, h1, hL, h2, h3⟩, st⟩ | ⟨q, vm₁, ⟨U', l2, c2, s2⟩, hW₁, X', ⟨g', mk, t, L, E, ce, e1, e2, hq, hce, hcv, hcl, h1, hL, h2, h3⟩, st⟩
  · dsimp only [Pt.U, Pt.locs, Pt.cells, Pt.slots] at X' e1 e2 h1 h2 h3 st
    subst h1; subst h2; subst h3
    exact Or.inl ⟨v, (T.setVm vm₁).calling g' mk As.toArray, t, U', L, hT, X', hL, e1, e2, hq, st⟩
  · dsimp only [Pt.U, Pt.locs, Pt.cells, Pt.slots] at X' e1 e2 h1 h2 h3 st hcl
    subst h1; subst h2; subst h3
    exact Or.inr ⟨q, (T.setVm vm₁).calling g' mk As.toArray, t, U', L, E, ce, hT, X', hL, e1, e2, hq, hce, hcv, vx_cls hW₁ hcl, st⟩
end Runs
section Rows
variable {p : Program} {l : Launch} {e : Env} {R : Room} {s : State} {m : MethodId} {args : Array Value} {below : List Frame} {meth : Method} {c : Code} {H : Heap} {locs : List Loc} {cells slots : Nat} {Q : State → Prop}
variable {mc ms : Nat} {free : Addr → Prop} {A0 A1 : Nat → Prop} {H0 : Heap} {a : Array Value} {pc : Nat} {ls : Array Slot} {st0 rest : List Value}
theorem vx_keep {st₀ t T' : State} {L : List Loc} (h0 : st₀.heap = H) (e1 : T'.heap = t.heap) (hS : va_S A0 H0 H locs) (hA : ∀ q, q < H.size → A1 q → A0 q) (hf : ∀ q, free q → A0 q) (hL : ∀ q ∈ L, free q.base) (hF : va_F A1 st₀ t) :
    H.size ≤ T'.heap.size ∧ (∀ q : Nat, q < H.size → ¬ A1 q → T'.heap[q]? = H[q]?) ∧ va_S A0 H0 T'.heap (locs ++ L) := by
  obtain ⟨hz, hk⟩ := hF
  rw [h0] at hz hk
  exact ⟨by rw [e1]; exact hz, fun q h1 h2 => by rw [e1]; exact hk q h1 h2,
    ⟨Nat.le_trans hS.1 (by rw [e1]; exact hz), fun q h1 h2 => by rw [e1, hk q (Nat.lt_of_lt_of_le h1 hS.1) (fun z => h2 (hA q (Nat.lt_of_lt_of_le h1 hS.1) z))]; exact hS.2.1 q h1 h2, fun q hq => by
      rcases List.mem_append.mp hq with h | h
      · exact hS.2.2 q h
      · exact hf _ (hL q h)⟩⟩
theorem vx_calli {S SX : Type} {post : Int32 → S → Prop} {px : SX → Prop} {B : S → State → Prop} {BX : String → SX → State → Prop} {AX : Nat → Prop} (hr : vx_Run p l e R s m args below meth c H locs cells slots mc ms (F0 m pc ls st0) rest (va_Qi post B A1 a) (vx_X px BX AX) free) (hS : va_S A0 H0 H locs) (hA : ∀ q, q < H.size → A1 q → A0 q) (hf : ∀ q, free q → A0 q) (hAX : ∀ q, q < H.size → AX q → A0 q)
    (kx : ∀ (E : String) (ce : Cell) (q9 : Addr) (u : SX) (t : State) (H1 : Heap) (locs1 : List Loc), t.heap = H1 → s.vm.Alike t.vm → px u → BX E u t → H.size ≤ H1.size → (∀ q : Nat, q < H.size → ¬ AX q → H1[q]? = H[q]?) → va_S A0 H0 H1 locs1 → H1[q9]? = some ce → ce.vm = .none → s.vm.findClass E = some ce.cls → vx_W p l e R s m args below meth c H1 locs1 (cells + mc) (slots + ms) Q (F0 m pc ls rest) q9)
    (kk : ∀ (r : Int32) (u : S) (t : State) (H1 : Heap) (locs1 : List Loc), t.heap = H1 → s.vm.Alike t.vm → post r u → B u t → H.size ≤ H1.size → (∀ q : Nat, q < H.size → ¬ A1 q → H1[q]? = H[q]?) → va_S A0 H0 H1 locs1 → W p l e R s m args below meth c H1 locs1 (cells + mc) (slots + ms) Q (F0 m (pc + 3) ls (.int r :: rest))) : W p l e R s m args below meth c H locs cells slots Q (F0 m pc ls st0) := by
  intro T hT X
  rcases hr T hT X with ⟨v, st₀, t, T', L, h0, X', hL, e1, e2, ⟨⟨r, u, hv, hp, hb⟩, hF⟩, st⟩ | ⟨q, st₀, t, T', L, E, ce, h0, X', hL, e1, e2, ⟨u, hp, hb, hF⟩, hce, hcv, hcl, st⟩
  · cases hv
    obtain ⟨k1, k2, k3⟩ := vx_keep h0 e1 hS hA hf hL hF
    obtain ⟨t2, a1, b1⟩ := kk r u t T'.heap (locs ++ L) e1.symm (by rw [← e2]; exact X'.warmed.alike) hp hb k1 k2 k3 T' rfl X'
    exact ⟨t2, st t2 a1, b1⟩
  · obtain ⟨k1, k2, k3⟩ := vx_keep h0 e1 hS hAX hf hL hF
    obtain ⟨t2, a1, b1⟩ := kx E ce q u t T'.heap (locs ++ L) e1.symm (by rw [← e2]; exact X'.warmed.alike) hp hb k1 k2 k3 (by rw [e1]; exact hce) hcv hcl T' rfl X'
    exact ⟨t2, st.trans a1, b1⟩
theorem vx_calll {S SX : Type} {post : Int64 → S → Prop} {px : SX → Prop} {B : S → State → Prop} {BX : String → SX → State → Prop} {AX : Nat → Prop} (hr : vx_Run p l e R s m args below meth c H locs cells slots mc ms (F0 m pc ls st0) rest (va_Ql post B A1 a) (vx_X px BX AX) free) (hS : va_S A0 H0 H locs) (hA : ∀ q, q < H.size → A1 q → A0 q) (hf : ∀ q, free q → A0 q) (hAX : ∀ q, q < H.size → AX q → A0 q)
    (kx : ∀ (E : String) (ce : Cell) (q9 : Addr) (u : SX) (t : State) (H1 : Heap) (locs1 : List Loc), t.heap = H1 → s.vm.Alike t.vm → px u → BX E u t → H.size ≤ H1.size → (∀ q : Nat, q < H.size → ¬ AX q → H1[q]? = H[q]?) → va_S A0 H0 H1 locs1 → H1[q9]? = some ce → ce.vm = .none → s.vm.findClass E = some ce.cls → vx_W p l e R s m args below meth c H1 locs1 (cells + mc) (slots + ms) Q (F0 m pc ls rest) q9)
    (kk : ∀ (r : Int64) (u : S) (t : State) (H1 : Heap) (locs1 : List Loc), t.heap = H1 → s.vm.Alike t.vm → post r u → B u t → H.size ≤ H1.size → (∀ q : Nat, q < H.size → ¬ A1 q → H1[q]? = H[q]?) → va_S A0 H0 H1 locs1 → W p l e R s m args below meth c H1 locs1 (cells + mc) (slots + ms) Q (F0 m (pc + 3) ls (.long r :: rest))) : W p l e R s m args below meth c H locs cells slots Q (F0 m pc ls st0) := by
  intro T hT X
  rcases hr T hT X with ⟨v, st₀, t, T', L, h0, X', hL, e1, e2, ⟨⟨r, u, hv, hp, hb⟩, hF⟩, st⟩ | ⟨q, st₀, t, T', L, E, ce, h0, X', hL, e1, e2, ⟨u, hp, hb, hF⟩, hce, hcv, hcl, st⟩
  · cases hv
    obtain ⟨k1, k2, k3⟩ := vx_keep h0 e1 hS hA hf hL hF
    obtain ⟨t2, a1, b1⟩ := kk r u t T'.heap (locs ++ L) e1.symm (by rw [← e2]; exact X'.warmed.alike) hp hb k1 k2 k3 T' rfl X'
    exact ⟨t2, st t2 a1, b1⟩
  · obtain ⟨k1, k2, k3⟩ := vx_keep h0 e1 hS hAX hf hL hF
    obtain ⟨t2, a1, b1⟩ := kx E ce q u t T'.heap (locs ++ L) e1.symm (by rw [← e2]; exact X'.warmed.alike) hp hb k1 k2 k3 (by rw [e1]; exact hce) hcv hcl T' rfl X'
    exact ⟨t2, st.trans a1, b1⟩
theorem vx_callf {S SX : Type} {post : UInt32 → S → Prop} {px : SX → Prop} {B : S → State → Prop} {BX : String → SX → State → Prop} {AX : Nat → Prop} (hr : vx_Run p l e R s m args below meth c H locs cells slots mc ms (F0 m pc ls st0) rest (va_Qf post B A1 a) (vx_X px BX AX) free) (hS : va_S A0 H0 H locs) (hA : ∀ q, q < H.size → A1 q → A0 q) (hf : ∀ q, free q → A0 q) (hAX : ∀ q, q < H.size → AX q → A0 q)
    (kx : ∀ (E : String) (ce : Cell) (q9 : Addr) (u : SX) (t : State) (H1 : Heap) (locs1 : List Loc), t.heap = H1 → s.vm.Alike t.vm → px u → BX E u t → H.size ≤ H1.size → (∀ q : Nat, q < H.size → ¬ AX q → H1[q]? = H[q]?) → va_S A0 H0 H1 locs1 → H1[q9]? = some ce → ce.vm = .none → s.vm.findClass E = some ce.cls → vx_W p l e R s m args below meth c H1 locs1 (cells + mc) (slots + ms) Q (F0 m pc ls rest) q9)
    (kk : ∀ (r : UInt32) (u : S) (t : State) (H1 : Heap) (locs1 : List Loc), t.heap = H1 → s.vm.Alike t.vm → post r u → B u t → H.size ≤ H1.size → (∀ q : Nat, q < H.size → ¬ A1 q → H1[q]? = H[q]?) → va_S A0 H0 H1 locs1 → W p l e R s m args below meth c H1 locs1 (cells + mc) (slots + ms) Q (F0 m (pc + 3) ls (.float r :: rest))) : W p l e R s m args below meth c H locs cells slots Q (F0 m pc ls st0) := by
  intro T hT X
  rcases hr T hT X with ⟨v, st₀, t, T', L, h0, X', hL, e1, e2, ⟨⟨r, u, hv, hp, hb⟩, hF⟩, st⟩ | ⟨q, st₀, t, T', L, E, ce, h0, X', hL, e1, e2, ⟨u, hp, hb, hF⟩, hce, hcv, hcl, st⟩
  · cases hv
    obtain ⟨k1, k2, k3⟩ := vx_keep h0 e1 hS hA hf hL hF
    obtain ⟨t2, a1, b1⟩ := kk r u t T'.heap (locs ++ L) e1.symm (by rw [← e2]; exact X'.warmed.alike) hp hb k1 k2 k3 T' rfl X'
    exact ⟨t2, st t2 a1, b1⟩
  · obtain ⟨k1, k2, k3⟩ := vx_keep h0 e1 hS hAX hf hL hF
    obtain ⟨t2, a1, b1⟩ := kx E ce q u t T'.heap (locs ++ L) e1.symm (by rw [← e2]; exact X'.warmed.alike) hp hb k1 k2 k3 (by rw [e1]; exact hce) hcv hcl T' rfl X'
    exact ⟨t2, st.trans a1, b1⟩
theorem vx_calld {S SX : Type} {post : UInt64 → S → Prop} {px : SX → Prop} {B : S → State → Prop} {BX : String → SX → State → Prop} {AX : Nat → Prop} (hr : vx_Run p l e R s m args below meth c H locs cells slots mc ms (F0 m pc ls st0) rest (va_Qd post B A1 a) (vx_X px BX AX) free) (hS : va_S A0 H0 H locs) (hA : ∀ q, q < H.size → A1 q → A0 q) (hf : ∀ q, free q → A0 q) (hAX : ∀ q, q < H.size → AX q → A0 q)
    (kx : ∀ (E : String) (ce : Cell) (q9 : Addr) (u : SX) (t : State) (H1 : Heap) (locs1 : List Loc), t.heap = H1 → s.vm.Alike t.vm → px u → BX E u t → H.size ≤ H1.size → (∀ q : Nat, q < H.size → ¬ AX q → H1[q]? = H[q]?) → va_S A0 H0 H1 locs1 → H1[q9]? = some ce → ce.vm = .none → s.vm.findClass E = some ce.cls → vx_W p l e R s m args below meth c H1 locs1 (cells + mc) (slots + ms) Q (F0 m pc ls rest) q9)
    (kk : ∀ (r : UInt64) (u : S) (t : State) (H1 : Heap) (locs1 : List Loc), t.heap = H1 → s.vm.Alike t.vm → post r u → B u t → H.size ≤ H1.size → (∀ q : Nat, q < H.size → ¬ A1 q → H1[q]? = H[q]?) → va_S A0 H0 H1 locs1 → W p l e R s m args below meth c H1 locs1 (cells + mc) (slots + ms) Q (F0 m (pc + 3) ls (.double r :: rest))) : W p l e R s m args below meth c H locs cells slots Q (F0 m pc ls st0) := by
  intro T hT X
  rcases hr T hT X with ⟨v, st₀, t, T', L, h0, X', hL, e1, e2, ⟨⟨r, u, hv, hp, hb⟩, hF⟩, st⟩ | ⟨q, st₀, t, T', L, E, ce, h0, X', hL, e1, e2, ⟨u, hp, hb, hF⟩, hce, hcv, hcl, st⟩
  · cases hv
    obtain ⟨k1, k2, k3⟩ := vx_keep h0 e1 hS hA hf hL hF
    obtain ⟨t2, a1, b1⟩ := kk r u t T'.heap (locs ++ L) e1.symm (by rw [← e2]; exact X'.warmed.alike) hp hb k1 k2 k3 T' rfl X'
    exact ⟨t2, st t2 a1, b1⟩
  · obtain ⟨k1, k2, k3⟩ := vx_keep h0 e1 hS hAX hf hL hF
    obtain ⟨t2, a1, b1⟩ := kx E ce q u t T'.heap (locs ++ L) e1.symm (by rw [← e2]; exact X'.warmed.alike) hp hb k1 k2 k3 (by rw [e1]; exact hce) hcv hcl T' rfl X'
    exact ⟨t2, st.trans a1, b1⟩
theorem vx_callv {S SX : Type} {post : S → Prop} {px : SX → Prop} {B : S → State → Prop} {BX : String → SX → State → Prop} {AX : Nat → Prop} (hr : vx_Run p l e R s m args below meth c H locs cells slots mc ms (F0 m pc ls st0) rest (va_Qv post B A1 a) (vx_X px BX AX) free) (hS : va_S A0 H0 H locs) (hA : ∀ q, q < H.size → A1 q → A0 q) (hf : ∀ q, free q → A0 q) (hAX : ∀ q, q < H.size → AX q → A0 q)
    (kx : ∀ (E : String) (ce : Cell) (q9 : Addr) (u : SX) (t : State) (H1 : Heap) (locs1 : List Loc), t.heap = H1 → s.vm.Alike t.vm → px u → BX E u t → H.size ≤ H1.size → (∀ q : Nat, q < H.size → ¬ AX q → H1[q]? = H[q]?) → va_S A0 H0 H1 locs1 → H1[q9]? = some ce → ce.vm = .none → s.vm.findClass E = some ce.cls → vx_W p l e R s m args below meth c H1 locs1 (cells + mc) (slots + ms) Q (F0 m pc ls rest) q9)
    (kk : ∀ (u : S) (t : State) (H1 : Heap) (locs1 : List Loc), t.heap = H1 → s.vm.Alike t.vm → post u → B u t → H.size ≤ H1.size → (∀ q : Nat, q < H.size → ¬ A1 q → H1[q]? = H[q]?) → va_S A0 H0 H1 locs1 → W p l e R s m args below meth c H1 locs1 (cells + mc) (slots + ms) Q (F0 m (pc + 3) ls (rest))) : W p l e R s m args below meth c H locs cells slots Q (F0 m pc ls st0) := by
  intro T hT X
  rcases hr T hT X with ⟨v, st₀, t, T', L, h0, X', hL, e1, e2, ⟨⟨u, hv, hp, hb⟩, hF⟩, st⟩ | ⟨q, st₀, t, T', L, E, ce, h0, X', hL, e1, e2, ⟨u, hp, hb, hF⟩, hce, hcv, hcl, st⟩
  · cases hv
    obtain ⟨k1, k2, k3⟩ := vx_keep h0 e1 hS hA hf hL hF
    obtain ⟨t2, a1, b1⟩ := kk u t T'.heap (locs ++ L) e1.symm (by rw [← e2]; exact X'.warmed.alike) hp hb k1 k2 k3 T' rfl X'
    exact ⟨t2, st t2 a1, b1⟩
  · obtain ⟨k1, k2, k3⟩ := vx_keep h0 e1 hS hAX hf hL hF
    obtain ⟨t2, a1, b1⟩ := kx E ce q u t T'.heap (locs ++ L) e1.symm (by rw [← e2]; exact X'.warmed.alike) hp hb k1 k2 k3 (by rw [e1]; exact hce) hcv hcl T' rfl X'
    exact ⟨t2, st.trans a1, b1⟩
/-- caught by the row x of this method's table; the rows ahead don't take it -/
theorem vx_catch {own name : String} {E : String} {ce : Cell} {q : Addr} (hown : s.vm.findClass own = some m.cls) (pre : List ExceptionTableEntry) (x : ExceptionTableEntry) (suf : List ExceptionTableEntry) (hsplit : c.exceptionTable.toList = pre ++ x :: suf)
    (hpass : ∀ z ∈ pre, covers z pc = false ∨ (z.catchType ≠ 0 ∧ ∃ nm : String, (Cond.classLink own z.catchType nm).before args s = true ∧ va_Nc E nm s)) (hx : covers x pc = true) (h0 : x.catchType ≠ 0)
    (hlink : (Cond.classLink own x.catchType name).before args s = true) (hcast : (Cond.castable E name).before args s = true) (hcell : H[q]? = some ce) (hv : ce.vm = .none) (hcl : s.vm.findClass E = some ce.cls)
    (kk : W p l e R s m args below meth c H locs cells slots Q (F0 m x.handlerPc ls [.ref q])) : vx_W p l e R s m args below meth c H locs cells slots Q (F0 m pc ls rest) q := by
  intro T hT X
  have hpl : e.platform.magicAccessors = ({} : Platform).magicAccessors := by rw [X.admits.platform]
  obtain ⟨c3, c4, hc3, hc4, hasg⟩ := Cond.castable_spec hcast
  cases Option.some.inj (hc3.symm.trans hcl)
  obtain ⟨c5, hc5, hcl5⟩ := Cond.classLink_spec hown hlink e.platform hpl
  cases Option.some.inj (hc4.symm.trans hc5)
  obtain ⟨vm', X', st⟩ := X.thenCaughtThrough q (g := F0 m pc ls rest) rfl (Steps.refl _) (by rw [hT]; exact hcell) (by rw [hv]; rfl) (by obtain ⟨k9, h9, -⟩ := Vm.findClass_spec hcl; exact ⟨k9, h9⟩) pre x suf hsplit
    (fun z hz => by
      rcases hpass z hz with h | ⟨hz0, nm, hl1, hn1⟩
      · exact Or.inl h
      · obtain ⟨c6, hc6, hcl6⟩ := Cond.classLink_spec hown hl1 e.platform hpl
        obtain ⟨a8, b8, h1, h2, h3⟩ := hn1
        cases Option.some.inj (h1.symm.trans hcl)
        cases Option.some.inj (h2.symm.trans hc6)
        exact Or.inr ⟨hz0, _, hcl6, h3⟩) hx (Or.inr ⟨h0, c4, hcl5, hasg⟩)
  obtain ⟨t, a1, b1⟩ := kk (T.setVm vm') hT X'
  exact ⟨t, st.trans a1, b1⟩
end Rows
section Ends
variable {p : Program} {l : Launch} {e : Env} {R : Room} {s : State} {m : MethodId} {args : Array Value} {below : List Frame} {meth : Method} {c : Code} {H : Heap} {locs : List Loc} {cells slots : Nat} {Q : State → Prop}
variable {mc ms : Nat} {free : Addr → Prop} {A0 A1 : Nat → Prop} {H0 : Heap} {a : Array Value} {ls : Array Slot} {st0 rest : List Value}
variable {Qc : Array Value → State → Outcome → State → Prop} {XC : String → State → State → Prop}
/-- what a body that may throw owes at its end -/
def vx_MQ (below : List Frame) (Qc : Array Value → State → Outcome → State → Prop) (XC : String → State → State → Prop) (a : Array Value) (s : State) (mc ms : Nat) (free : Addr → Prop) : State → Prop := fun t =>
  ∃ o, t.status = .running ∧ Ended t below o ∧ vx_Q Qc XC mc ms free a s o t
theorem vx_ret {g : JFrame} {mc ms : Nat} (k : W p l e R s m args below meth c H locs cells slots (MQ below Qc args s mc ms free) g) : W p l e R s m args below meth c H locs cells slots (vx_MQ below Qc XC args s mc ms free) g := by
  intro T hT X
  obtain ⟨t, a1, o, b1, b2, b3, b4⟩ := k T hT X
  exact ⟨t, a1, o, b1, b2, Or.inl ⟨b3, b4⟩⟩
/-- not caught here: it goes on to the caller -/
theorem vx_widen {g : JFrame} {q : Addr} {k n : Nat} (h1 : cells ≤ k) (h2 : slots ≤ n) (kk : vx_W p l e R s m args below meth c H locs k n Q g q) : vx_W p l e R s m args below meth c H locs cells slots Q g q := fun T hT X => kk T hT (stand_widen X h1 h2)
theorem vx_out {pc : Nat} {E : String} {ce : Cell} {q : Addr} {mc ms : Nat} (hout : ∀ x ∈ c.exceptionTable.toList, covers x pc = false) (hlocks : meth.locks = false) (hcell : H[q]? = some ce) (hv : ce.vm = .none) (hcl : s.vm.findClass E = some ce.cls)
    (hx : ∀ t : State, t.heap = H → s.vm.Alike t.vm → XC E s t) (hf : ∀ z ∈ locs, free z.base) (hc : cells ≤ mc) (hs : slots ≤ ms) :
    vx_W p l e R s m args below meth c H locs cells slots (vx_MQ below Qc XC args s mc ms free) (F0 m pc ls rest) q := by
  intro T hT X
  obtain ⟨st1, hrun, hend, hW, hsm⟩ := X.leaveThrown q (g := F0 m pc ls rest) rfl rfl rfl hout hlocks
  have hcell9 : (T.setFrames (.throwing q :: below)).heap[q]? = some ce := by
    show T.heap[q]? = some ce
    rw [hT]; exact hcell
  exact ⟨_, st1, .threw q, hrun, hend, Or.inr ⟨q, rfl, E, ce, locs, hx _ hT hW.alike, hcell9, hv, hcl, hW, hsm.mono hc hs, hf⟩⟩
theorem vx_frame {U : State} {k n : Nat} (h : s.sameButNew ({ U with vm := s.vm } : State) locs k n) : s.heap.size ≤ U.heap.size ∧ ∀ q : Nat, q < s.heap.size → (∀ z ∈ locs, z.base ≠ q) → U.heap[q]? = s.heap[q]? := by
  obtain ⟨-, h2, -, -, -, h6⟩ := h
  refine ⟨h2, fun q hq hz => ?_⟩
  obtain ⟨c9, e1, e2, e3, e4⟩ := h6 q _ (Array.getElem?_eq_getElem hq)
  have hs : c9.slots = (s.heap[q]).slots := Array.ext_getElem? fun i => e4 i fun hm => hz _ hm rfl
  have h9 : c9 = s.heap[q] := by
    rw [hs] at e2
    exact e2
  have e5 : U.heap[q]? = some c9 := e1
  rw [e5, h9, Array.getElem?_eq_getElem hq]
/-- the words of a throw but the four that speak of the heap -/
def vx_no (w : Cond) : Bool := decide (w ≠ .isRef (.static Bundle.tN "UNASSIGNED_STACK" Bundle.steD)) && decide (w ≠ .isRef (.static Bundle.tN "SUPPRESSED_SENTINEL" Bundle.listD)) && decide (w ≠ .laysStatic Bundle.tN "UNASSIGNED_STACK" Bundle.steD) && decide (w ≠ .laysStatic Bundle.tN "SUPPRESSED_SENTINEL" Bundle.listD)
def vx_at0 (own : String) (ic : Nat) (X : String) (names : List String) : List Cond := (Bundle.ownAtoms0 own ic X names).filter vx_no
def vx_atS (own : String) (ic : Nat) (X : String) (names : List String) : List Cond := (Bundle.ownAtoms own ic X names).filter vx_no
/-- a word that the tables alone decide, or a good one -/
def vx_ot (w : Cond) : Bool := w.onTables || goodWord w
theorem vx_ot_at {args a' : Array Value} {s U : State} {w : Cond} (hW : s.WarmedH U.vm) (hvm : s.vm = U.vm) (hg : vx_ot w = true) (h : w.before args s = true) : w.before a' U = true := by
  simp only [vx_ot, Bool.or_eq_true] at hg
  rcases hg with hg | hg
  · exact va_tabs hg hvm h
  · exact word_at hW (good_of_word hg) h
/-- a list's words: the good ones out of the method's own list, the others by premises of their own -/
theorem vx_hat {args : Array Value} {s : State} {L B : List Cond} (h1 : ∀ w ∈ L.filter goodWord, w.before args s = true) (h2 : ∀ w ∈ L.filter (fun w => !goodWord w), w ∈ B) (h3 : ∀ w ∈ B, w.before args s = true) : ∀ w ∈ L, w.before args s = true := by
  intro w hw
  by_cases g : goodWord w = true
  · exact h1 w (List.mem_filter.mpr ⟨hw, g⟩)
  · refine h3 w (h2 w (List.mem_filter.mpr ⟨hw, ?_⟩))
    show (!goodWord w) = true
    cases hgw : goodWord w
    · rfl
    · exact absurd hgw g
theorem vx_c {args : Array Value} {s : State} {w : Cond} {B : List Cond} (h : w.before args s = true) (t : ∀ w ∈ B, w.before args s = true) : ∀ w' ∈ w :: B, w'.before args s = true := fun w' h' => (List.mem_cons.mp h').elim (fun e => by rw [e]; exact h) (t w')
theorem vx_n {args : Array Value} {s : State} : ∀ w ∈ ([] : List Cond), w.before args s = true := fun _ h => nomatch h
theorem vx_own {args : Array Value} {s : State} {L : List Cond} (h1 : ∀ w ∈ L.filter vx_no, w.before args s = true)
    (hU : (Cond.isRef (.static Bundle.tN "UNASSIGNED_STACK" Bundle.steD)).before args s = true) (hN : (Cond.isRef (.static Bundle.tN "SUPPRESSED_SENTINEL" Bundle.listD)).before args s = true)
    (lU : (Cond.laysStatic Bundle.tN "UNASSIGNED_STACK" Bundle.steD).before args s = true) (lN : (Cond.laysStatic Bundle.tN "SUPPRESSED_SENTINEL" Bundle.listD).before args s = true) : ∀ w ∈ L, w.before args s = true := by
  intro w hw
  by_cases e1 : w = .isRef (.static Bundle.tN "UNASSIGNED_STACK" Bundle.steD)
  · rw [e1]; exact hU
  · by_cases e2 : w = .isRef (.static Bundle.tN "SUPPRESSED_SENTINEL" Bundle.listD)
    · rw [e2]; exact hN
    · by_cases e3 : w = .laysStatic Bundle.tN "UNASSIGNED_STACK" Bundle.steD
      · rw [e3]; exact lU
      · by_cases e4 : w = .laysStatic Bundle.tN "SUPPRESSED_SENTINEL" Bundle.listD
        · rw [e4]; exact lN
        · exact h1 w (List.mem_filter.mpr ⟨hw, by unfold vx_no; rw [decide_eq_true e1, decide_eq_true e2, decide_eq_true e3, decide_eq_true e4]; rfl⟩)
/-- where a static field lies, its class's statics cell in H -/
def vx_L (C n d : String) (A : Nat → Prop) (U : State) (H : Heap) : Prop := ∃ (c : ClassId) (k : Class) (i : Nat) (f : Field) (a : Nat) (cell : Cell), U.vm.findClass C = some c ∧ U.fieldFound? C n d = some (c, k, i, f) ∧ f.isStatic = true ∧ k.statics = some a ∧ H[a]? = some cell ∧ cell.vm.isStatics = true ∧ cell.cls = c ∧ f.slot < cell.slots.size ∧ k.staticTypes[f.slot]? = some f.type ∧ ¬ A a
theorem vx_L.moved {C n d : String} {A : Nat → Prop} {u U : State} {H : Heap} (hvm : u.vm.Alike U.vm) (h : vx_L C n d A u H) : vx_L C n d A U H := by
  obtain ⟨c, k, i, f, a, cell, h1, h2, h3, h4, h5, h6, h7, h8, h9, h10⟩ := h
  obtain ⟨k', hi', he⟩ := State.fieldFound?_setVm hvm h2
  exact ⟨c, k', i, f, a, cell, by rw [hvm.findClass]; exact h1, hi', h3, by rw [he]; exact h4, h5, h6, h7, h8, by rw [he]; exact h9, h10⟩
theorem vx_L.kept {C n d : String} {A : Nat → Prop} {U : State} {H H1 : Heap} (h : vx_L C n d A U H) (hq : ∀ a : Nat, a < H.size → ¬ A a → H1[a]? = H[a]?) : vx_L C n d A U H1 := by
  obtain ⟨c, k, i, f, a, cell, h1, h2, h3, h4, h5, h6, h7, h8, h9, h10⟩ := h
  exact ⟨c, k, i, f, a, cell, h1, h2, h3, h4, by rw [hq a (Array.getElem?_eq_some_iff.mp h5).1 h10]; exact h5, h6, h7, h8, h9, h10⟩
theorem vx_L.narrow {C n d : String} {A B : Nat → Prop} {U : State} {H : Heap} (h : vx_L C n d A U H) (hAB : ∀ q, B q → A q) : vx_L C n d B U H := by
  obtain ⟨c, k, i, f, a, cell, h1, h2, h3, h4, h5, h6, h7, h8, h9, h10⟩ := h
  exact ⟨c, k, i, f, a, cell, h1, h2, h3, h4, h5, h6, h7, h8, h9, fun z => h10 (hAB _ z)⟩
theorem vx_L.word {C n d : String} {A : Nat → Prop} {s : State} {args : Array Value} (h : vx_L C n d A s s.heap) : (Cond.laysStatic C n d).before args s = true := by
  obtain ⟨c, k, i, f, a, cell, h1, h2, h3, h4, h5, h6, h7, h8, h9, -⟩ := h
  show (Cond.laysStatic C n d).holds args s none s [] = true
  exact Cond.laysStatic_of h1 h2 h3 h4 h5 h6 h7 h8 h9
/-- .. and what it holds: null or some reference -/
def vx_Zq (C n d : String) (A : Nat → Prop) (U : State) (H : Heap) : Prop := va_Zq C n d A U H ∧ vx_L C n d A U H
theorem vx_Zq.moved {C n d : String} {A : Nat → Prop} {u U : State} {H : Heap} (hvm : u.vm.Alike U.vm) (h : vx_Zq C n d A u H) : vx_Zq C n d A U H := ⟨va_Zq.moved hvm h.1, vx_L.moved hvm h.2⟩
theorem vx_Zq.kept {C n d : String} {A : Nat → Prop} {U : State} {H H1 : Heap} (h : vx_Zq C n d A U H) (hq : ∀ a : Nat, a < H.size → ¬ A a → H1[a]? = H[a]?) : vx_Zq C n d A U H1 := ⟨va_Zq.kept h.1 hq, vx_L.kept h.2 hq⟩
theorem vx_Zq.narrow {C n d : String} {A B : Nat → Prop} {U : State} {H : Heap} (h : vx_Zq C n d A U H) (hAB : ∀ q, B q → A q) : vx_Zq C n d B U H := ⟨va_Zq.narrow h.1 hAB, vx_L.narrow h.2 hAB⟩
theorem vx_Zqof {args : Array Value} {s : State} {C n d : String} {A : Nat → Prop} (hl : (Cond.laysStatic C n d).before args s = true) (hini : (Cond.initialized C).before args s = true) (h : (Cond.isRef (.static C n d)).before args s = true) (hA : ∀ a : Nat, a < s.heap.size → ¬ A a) : vx_Zq C n d A s s.heap := by
  refine ⟨va_Zqof hl hini h hA, ?_⟩
  obtain ⟨c, k, i, f, a, cell, h1, h2, h3, h4, h5, h6, h7, h8, h9⟩ := Cond.laysStatic_spec hl
  exact ⟨c, k, i, f, a, cell, h1, h2, h3, h4, h5, h6, h7, h8, h9, hA a (Array.getElem?_eq_some_iff.mp h5).1⟩
theorem vx_isRef {C n d : String} {v : Value} {A : Nat → Prop} {s : State} {args : Array Value} (h : va_Z C n d v A s s.heap) (hv : v.isRef = true) : (Cond.isRef (.static C n d)).before args s = true := by
  obtain ⟨cf, kf, fi, f, a, cell, h1, h2, h3, h4, h5, h6, h7, -⟩ := h
  have he : (Term.static C n d).eval args s none [] s = some v := by
    simp [Term.eval, State.fieldNamed?, h1, h2, h4, h5, h6, h7]
  simp only [Cond.before, Cond.holds, Cond.value, he]
  cases v <;> simp_all [Value.isRef]
theorem vx_isRefq {C n d : String} {A : Nat → Prop} {s : State} {args : Array Value} (h : va_Zq C n d A s s.heap) : (Cond.isRef (.static C n d)).before args s = true := by
  rcases h with h | ⟨t, h⟩
  · exact vx_isRef h rfl
  · exact vx_isRef h rfl
/-- the same frame, seen from here: as if the method were called anew in this heap -/
theorem vx_rebase {T : State} (X : Stand p l e R s m args below meth c T locs cells slots) {R' : Room} (hf : R'.frames ≤ R.frames) (hl : R'.locals ≤ R.locals) (hc : cells + R'.cells ≤ R.cells) (hs : slots + R'.slots ≤ R.slots) :
    Stand p l e R' ((T.setVm s.vm).setFrames (.invoking m args :: below)) m args below meth c T [] 0 0 := by
  have htop : (T.setVm s.vm).topJava?.isSome := X.here.top
  have hF : ((T.setVm s.vm).setFrames (.invoking m args :: below)).frames = .invoking m args :: below := State.frames_setFrames _ (State.cur_lt_of_top htop)
  obtain ⟨g₀, hg0⟩ := Option.isSome_iff_exists.mp htop
  obtain ⟨r, hr⟩ := State.topJava?_eq_some.mp hg0
  have hl9 : e.platform.stackLimits (T.setVm s.vm).me = e.platform.stackLimits s.me := X.limits
  have hb9 : (T.setVm s.vm).me.stackBytes = s.me.stackBytes := X.bytes
  refine ⟨X.admits, X.cas, X.clock, hF, ?_, X.hears, X.method, X.code, X.here, X.tail, X.warmed, ?_, ?_, ?_⟩
  · have h := X.room
    have hU : ((T.setVm s.vm).setFrames (.invoking m args :: below)).localsInUse = s.localsInUse := by
      rw [State.localsInUse_invoking hF (meth := meth) (c := c) X.method X.code, State.localsInUse_invoking X.frames X.method X.code]
    simp only [State.hasRoom, Bool.and_eq_true, decide_eq_true_eq] at h ⊢
    obtain ⟨⟨⟨⟨h1, h2, h3, h4, h5, h6⟩, h7⟩, h8⟩, h9⟩ := h
    rw [X.frames, List.length_cons] at h2 h3
    have q1 := X.heapSize
    have q2 := X.used
    simp only [hF, hU, List.length_cons, State.stackLimits_setFrames, State.stackBytes_setFrames, hl9, hb9]
    refine ⟨⟨⟨⟨by omega, by omega, by omega, by omega, by omega, h6⟩, ?_⟩, ?_⟩, X.book⟩
    · show T.heap.size + R'.cells ≤ e.platform.maxCells
      omega
    · show T.slotsUsed + R'.slots ≤ e.platform.maxSlots
      omega
  · rw [State.stackLimits_setFrames]; rfl
  · rw [State.stackBytes_setFrames]; rfl
  · refine ⟨?_, Nat.le_refl _, Nat.le_refl _, ?_, ?_, fun a c9 h9 => ⟨c9, h9, rfl, rfl, fun _ _ => rfl⟩⟩
    · obtain ⟨t, ht, -⟩ := State.frames_cons hr
      show T.setVm s.vm = { ((T.setVm s.vm).setFrames (.invoking m args :: below)).setFrames (T.setVm s.vm).frames with heap := T.heap, slotsUsed := T.slotsUsed }
      rw [State.setFrames_setFrames, State.setFrames_self ht]
      rfl
    · show T.slotsUsed = T.slotsUsed + ((T.heap.toList.drop T.heap.size).map (·.slots.size)).sum
      rw [List.drop_eq_nil_of_le (Nat.le_of_eq Array.length_toList)]
      rfl
    · show ((T.heap.toList.drop T.heap.size).map (·.slots.size)).sum ≤ 0
      rw [List.drop_eq_nil_of_le (Nat.le_of_eq Array.length_toList)]
      exact Nat.le_refl _
/-- 'throw new E()': new; dup; invokespecial; athrow -/
theorem vx_throw0 {cc : ByteArray} {pc : Nat} (hexec : p.tables.exec = Jvm.exec) (hb : c.code = cc) (hl : l.stackTraces = false) {own cls : String} {names : List String} {ik ic mc ms : Nat} {A : Nat → Prop}
    (hown : s.vm.findClass own = some m.cls) (hcls : Bundle.fit cls = true) (hnames : ∀ n ∈ names, Bundle.fit n = true)
    (hk : (Cond.classLink own ik cls).before args s = true) (hini : (Cond.initialized cls).before args s = true) (hat : ∀ w ∈ vx_at0 own ic cls names, w.before args s = true)
    (hgood : ∀ w ∈ Cond.classLink own ik cls :: Cond.initialized cls :: vx_at0 own ic cls names, vx_ot w = true)
    (hU : vx_Zq Bundle.tN "UNASSIGNED_STACK" Bundle.steD A s s.heap) (hN : vx_Zq Bundle.tN "SUPPRESSED_SENTINEL" Bundle.listD A s s.heap) (hS : va_S A s.heap H locs) (hsize : ls.size = c.maxLocals)
    (d0 : decode cc pc = .ok (.new ik, 3)) (d3 : decode cc (pc + 3) = .ok (.dup, 1)) (d4 : decode cc (pc + 4) = .ok (.invokespecial ic, 3)) (d7 : decode cc (pc + 7) = .ok (.athrow, 1))
    (hout : ∀ x ∈ c.exceptionTable.toList, covers x (pc + 7) = false)
    (hRframes : names.length + 3 < R.frames) (hRlocals : (rest.map fun v => v.category).sum + (13 * (names.length + 1) + 42) ≤ R.locals) (hRcells : cells + 1 ≤ R.cells) (hRslots : slots + 6 ≤ R.slots) (hlocks : meth.locks = false)
    (hx : ∀ t : State, s.vm.Alike t.vm → H.size ≤ t.heap.size → (∀ q : Nat, q < H.size → t.heap[q]? = H[q]?) → XC cls s t)
    (hf : ∀ z ∈ locs, free z.base) (hc : cells + 1 ≤ mc) (hs : slots + 6 ≤ ms) :
    W p l e R s m args below meth c H locs cells slots (vx_MQ below Qc XC args s mc ms free) (F0 m pc ls rest) := by
  intro T hT X
  have htr : e.platform.stackTraces = false := (show e.platform.stackTraces = l.stackTraces by rw [X.admits.platform]).trans hl
  have Y := vx_rebase X (R' := { frames := R.frames, locals := R.locals, cells := 1, slots := 6 }) (Nat.le_refl _) (Nat.le_refl _) hRcells hRslots
  obtain ⟨s', hA⟩ : ∃ z, z = (T.setVm s.vm).setFrames (.invoking m args :: below) := ⟨_, rfl⟩
  rw [← hA] at Y
  have hvm : s'.vm = s.vm := by rw [hA]; rfl
  have hhp : s'.heap = H := by rw [hA]; exact hT
  have hW0 : s.WarmedH s'.vm := by rw [hvm]; exact State.WarmedH.refl s
  have hat' : ∀ w ∈ vx_at0 own ic cls names, w.before args s' = true := fun w hw => vx_ot_at hW0 hvm.symm (hgood w (List.mem_cons_of_mem _ (List.mem_cons_of_mem _ hw))) (hat w hw)
  have hk' : (Cond.classLink own ik cls).before args s' = true := vx_ot_at hW0 hvm.symm (hgood _ List.mem_cons_self) hk
  have hini' : (Cond.initialized cls).before args s' = true := vx_ot_at hW0 hvm.symm (hgood _ (List.mem_cons_of_mem _ List.mem_cons_self)) hini
  have hU' : vx_Zq Bundle.tN "UNASSIGNED_STACK" Bundle.steD A s' s'.heap := by rw [hhp]; exact vx_Zq.moved hW0.alike (hU.kept hS.2.1)
  have hN' : vx_Zq Bundle.tN "SUPPRESSED_SENTINEL" Bundle.listD A s' s'.heap := by rw [hhp]; exact vx_Zq.moved hW0.alike (hN.kept hS.2.1)
  have h : ∀ w ∈ Bundle.ownAtoms0 own ic cls names, w.before args s' = true := vx_own hat' (vx_isRefq hU'.1) (vx_isRefq hN'.1) hU'.2.word hN'.2.word
  have hown' : s'.vm.findClass own = some m.cls := by rw [hvm]; exact hown
  have hins : (Cond.instantiable cls 6).before args s' = true := h _ (by simp [Bundle.ownAtoms0])
  obtain ⟨vm₁, cX, kX, hfX, hkX, -, -, X₁, st1⟩ := Y.newCold hexec (own := own) (C := cls) (index := ik) (n := 6) hown' hk' hins hini'
    (g := F0 m pc ls rest) rfl (by rw [hb]; exact d0) (Nat.le_refl _) (Nat.le_refl _)
  generalize hT1 : (T.setVm vm₁).pushCell { cls := cX, slots := kX.instanceTypes.map defaultValue, vm := .none } = T1 at X₁ st1
  have hcat : (Value.ref T.heap.size).category = 1 := rfl
  have hcellA : T1.heap[T.heap.size]? = some (freshCell cX kX) := by rw [← hT1]; exact State.heap_pushCell_size _ _
  have d3' : decode c.code (pc + 3) = .ok (.dup, 1) := by rw [hb]; exact d3
  obtain ⟨U, hsteps, hrun, hend, hW, hsame, ce, hce, hO⟩ := X₁.ctorThrow0 hexec htr (own := own) (cls := cls) (names := names) (ic := ic) hown' hcls hnames h (fun x hx => nomatch hx) hfX hkX hcellA (by rw [hhp, hT]; exact Nat.le_refl _)
    (g := { method := m, pc := pc + 4, locals := ls, stack := .ref T.heap.size :: .ref T.heap.size :: rest, locked := none }) rfl hsize rfl rfl (rest := rest) rfl
    (by rw [hb]; exact d4) (by rw [hb]; exact d7) hout hRframes (by simp only [List.map_cons, List.sum_cons, hcat]; omega) hlocks
  obtain ⟨f1, f2⟩ := vx_frame hsame
  rw [hhp] at f1 f2
  have hWs : s.WarmedH U.vm := State.WarmedH.trans hW0 hW
  have hcl : s.vm.findClass cls = some ce.cls := by
    have h9 := hO.cls
    rw [hvm] at h9
    exact h9
  have hall : s.sameButNew ({ U with vm := s.vm } : State) locs mc ms := by
    subst hA
    obtain ⟨e1, e2⟩ := hsame
    rw [State.setFrames_setFrames] at e1
    have h2 : (T.setVm s.vm).sameButNew ({ U with vm := s.vm } : State) [] (0 + 1) (0 + 6) := ⟨e1, e2⟩
    have h3 := X.same.trans h2
    rw [List.append_nil] at h3
    exact h3.mono hc hs
  refine ⟨U, ?_, .threw T.heap.size, hrun, hend, Or.inr ⟨T.heap.size, rfl, cls, ce, locs, hx U hWs.alike f1 (fun q hq => f2 q hq (fun z hz => nomatch hz)), hce, hO.vm, hcl, hWs, hall, hf⟩⟩
  refine st1 _ ?_
  show Steps p.tables e below (T1.setTop { method := m, pc := pc + 3, locals := ls, stack := .ref T.heap.size :: rest, locked := none }) _
  jvm_step X₁.here [X₁.here.top, hexec, d3', Value.category]
  exact hsteps
/-- 'throw new E("text")': new; dup; ldc; invokespecial; athrow -/
theorem vx_throwS {cc : ByteArray} {pc : Nat} (hexec : p.tables.exec = Jvm.exec) (hb : c.code = cc) (hl : l.stackTraces = false) {own cls text : String} {names : List String} {ik is ic mc ms sa : Nat} {A : Nat → Prop}
    (hown : s.vm.findClass own = some m.cls) (hcls : Bundle.fit cls = true) (hnames : ∀ n ∈ names, Bundle.fit n = true)
    (hk : (Cond.classLink own ik cls).before args s = true) (hini : (Cond.initialized cls).before args s = true) (hstr : vk_R own is text sa s) (hat : ∀ w ∈ vx_atS own ic cls names, w.before args s = true)
    (hgood : ∀ w ∈ Cond.classLink own ik cls :: Cond.initialized cls :: vx_atS own ic cls names, vx_ot w = true)
    (hU : vx_Zq Bundle.tN "UNASSIGNED_STACK" Bundle.steD A s s.heap) (hN : vx_Zq Bundle.tN "SUPPRESSED_SENTINEL" Bundle.listD A s s.heap) (hS : va_S A s.heap H locs) (hsize : ls.size = c.maxLocals)
    (d0 : decode cc pc = .ok (.new ik, 3)) (d3 : decode cc (pc + 3) = .ok (.dup, 1)) (d4 : decode cc (pc + 4) = .ok (.ldc is, 2)) (d6 : decode cc (pc + 6) = .ok (.invokespecial ic, 3)) (d9 : decode cc (pc + 9) = .ok (.athrow, 1))
    (hout : ∀ x ∈ c.exceptionTable.toList, covers x (pc + 9) = false)
    (hRframes : names.length + 3 < R.frames) (hRlocals : (rest.map fun v => v.category).sum + (13 * (names.length + 1) + 43) ≤ R.locals) (hRcells : cells + 1 ≤ R.cells) (hRslots : slots + 6 ≤ R.slots) (hlocks : meth.locks = false)
    (hx : ∀ t : State, s.vm.Alike t.vm → H.size ≤ t.heap.size → (∀ q : Nat, q < H.size → t.heap[q]? = H[q]?) → XC cls s t)
    (hf : ∀ z ∈ locs, free z.base) (hc : cells + 1 ≤ mc) (hs : slots + 6 ≤ ms) :
    W p l e R s m args below meth c H locs cells slots (vx_MQ below Qc XC args s mc ms free) (F0 m pc ls rest) := by
  intro T hT X
  have htr : e.platform.stackTraces = false := (show e.platform.stackTraces = l.stackTraces by rw [X.admits.platform]).trans hl
  have Y := vx_rebase X (R' := { frames := R.frames, locals := R.locals, cells := 1, slots := 6 }) (Nat.le_refl _) (Nat.le_refl _) hRcells hRslots
  obtain ⟨s', hA⟩ : ∃ z, z = (T.setVm s.vm).setFrames (.invoking m args :: below) := ⟨_, rfl⟩
  rw [← hA] at Y
  have hvm : s'.vm = s.vm := by rw [hA]; rfl
  have hhp : s'.heap = H := by rw [hA]; exact hT
  have hW0 : s.WarmedH s'.vm := by rw [hvm]; exact State.WarmedH.refl s
  have hat' : ∀ w ∈ vx_atS own ic cls names, w.before args s' = true := fun w hw => vx_ot_at hW0 hvm.symm (hgood w (List.mem_cons_of_mem _ (List.mem_cons_of_mem _ hw))) (hat w hw)
  have hk' : (Cond.classLink own ik cls).before args s' = true := vx_ot_at hW0 hvm.symm (hgood _ List.mem_cons_self) hk
  have hini' : (Cond.initialized cls).before args s' = true := vx_ot_at hW0 hvm.symm (hgood _ (List.mem_cons_of_mem _ List.mem_cons_self)) hini
  have hU' : vx_Zq Bundle.tN "UNASSIGNED_STACK" Bundle.steD A s' s'.heap := by rw [hhp]; exact vx_Zq.moved hW0.alike (hU.kept hS.2.1)
  have hN' : vx_Zq Bundle.tN "SUPPRESSED_SENTINEL" Bundle.listD A s' s'.heap := by rw [hhp]; exact vx_Zq.moved hW0.alike (hN.kept hS.2.1)
  have h : ∀ w ∈ Bundle.ownAtoms own ic cls names, w.before args s' = true := vx_own hat' (vx_isRefq hU'.1) (vx_isRefq hN'.1) hU'.2.word hN'.2.word
  have hown' : s'.vm.findClass own = some m.cls := by rw [hvm]; exact hown
  have hins : (Cond.instantiable cls 6).before args s' = true := h _ (by simp [Bundle.ownAtoms])
  obtain ⟨vm₁, cX, kX, hfX, hkX, -, -, X₁, st1⟩ := Y.newCold hexec (own := own) (C := cls) (index := ik) (n := 6) hown' hk' hins hini'
    (g := F0 m pc ls rest) rfl (by rw [hb]; exact d0) (Nat.le_refl _) (Nat.le_refl _)
  generalize hT1 : (T.setVm vm₁).pushCell { cls := cX, slots := kX.instanceTypes.map defaultValue, vm := .none } = T1 at X₁ st1
  have hcat : (Value.ref T.heap.size).category = 1 := rfl
  have hcellA : T1.heap[T.heap.size]? = some (freshCell cX kX) := by rw [← hT1]; exact State.heap_pushCell_size _ _
  have d3' : decode c.code (pc + 3) = .ok (.dup, 1) := by rw [hb]; exact d3
  have d4' : decode c.code (pc + 4) = .ok (.ldc is, 2) := by rw [hb]; exact d4
  have hstr' : vk_R own is text sa s' := vk_R.warm hW0 hstr
  obtain ⟨U, hsteps, hrun, hend, hW, hsame, ce, hce, hO⟩ := X₁.ctorThrowS hexec htr (own := own) (cls := cls) (names := names) (ic := ic) hown' hcls hnames h (fun x hx => nomatch hx) hfX hkX hcellA (by rw [hhp, hT]; exact Nat.le_refl _) (msg := .ref sa) rfl
    (g := { method := m, pc := pc + 6, locals := ls, stack := .ref sa :: .ref T.heap.size :: .ref T.heap.size :: rest, locked := none }) rfl hsize rfl rfl (rest := rest) rfl
    (by rw [hb]; exact d6) (by rw [hb]; exact d9) hout hRframes (by simp only [List.map_cons, List.sum_cons, hcat]; omega) hlocks
  obtain ⟨f1, f2⟩ := vx_frame hsame
  rw [hhp] at f1 f2
  have hWs : s.WarmedH U.vm := State.WarmedH.trans hW0 hW
  have hcl : s.vm.findClass cls = some ce.cls := by
    have h9 := hO.cls
    rw [hvm] at h9
    exact h9
  have hall : s.sameButNew ({ U with vm := s.vm } : State) locs mc ms := by
    subst hA
    obtain ⟨e1, e2⟩ := hsame
    rw [State.setFrames_setFrames] at e1
    have h2 : (T.setVm s.vm).sameButNew ({ U with vm := s.vm } : State) [] (0 + 1) (0 + 6) := ⟨e1, e2⟩
    have h3 := X.same.trans h2
    rw [List.append_nil] at h3
    exact h3.mono hc hs
  refine ⟨U, ?_, .threw T.heap.size, hrun, hend, Or.inr ⟨T.heap.size, rfl, cls, ce, locs, hx U hWs.alike f1 (fun q hq => f2 q hq (fun z hz => nomatch hz)), hce, hO.vm, hcl, hWs, hall, hf⟩⟩
  refine st1 _ ?_
  show Steps p.tables e below (T1.setTop { method := m, pc := pc + 3, locals := ls, stack := .ref T.heap.size :: rest, locked := none }) _
  jvm_step X₁.here [X₁.here.top, hexec, d3', Value.category]
  exact X₁.ldcString hexec (own := own) (text := text) (index := is) (a := sa) hown' hstr'.1 hstr'.2
    (g := { method := m, pc := pc + 4, locals := ls, stack := .ref T.heap.size :: .ref T.heap.size :: rest, locked := none }) rfl d4' _ hsteps
/-- 'throw new E("text")', the text by a wide index -/
theorem vx_throwSW {cc : ByteArray} {pc : Nat} (hexec : p.tables.exec = Jvm.exec) (hb : c.code = cc) (hl : l.stackTraces = false) {own cls text : String} {names : List String} {ik is ic mc ms sa : Nat} {A : Nat → Prop}
    (hown : s.vm.findClass own = some m.cls) (hcls : Bundle.fit cls = true) (hnames : ∀ n ∈ names, Bundle.fit n = true)
    (hk : (Cond.classLink own ik cls).before args s = true) (hini : (Cond.initialized cls).before args s = true) (hstr : vk_R own is text sa s) (hat : ∀ w ∈ vx_atS own ic cls names, w.before args s = true)
    (hgood : ∀ w ∈ Cond.classLink own ik cls :: Cond.initialized cls :: vx_atS own ic cls names, vx_ot w = true)
    (hU : vx_Zq Bundle.tN "UNASSIGNED_STACK" Bundle.steD A s s.heap) (hN : vx_Zq Bundle.tN "SUPPRESSED_SENTINEL" Bundle.listD A s s.heap) (hS : va_S A s.heap H locs) (hsize : ls.size = c.maxLocals)
    (d0 : decode cc pc = .ok (.new ik, 3)) (d3 : decode cc (pc + 3) = .ok (.dup, 1)) (d4 : decode cc (pc + 4) = .ok (.ldc_w is, 3)) (d7 : decode cc (pc + 7) = .ok (.invokespecial ic, 3)) (d10 : decode cc (pc + 10) = .ok (.athrow, 1))
    (hout : ∀ x ∈ c.exceptionTable.toList, covers x (pc + 10) = false)
    (hRframes : names.length + 3 < R.frames) (hRlocals : (rest.map fun v => v.category).sum + (13 * (names.length + 1) + 43) ≤ R.locals) (hRcells : cells + 1 ≤ R.cells) (hRslots : slots + 6 ≤ R.slots) (hlocks : meth.locks = false)
    (hx : ∀ t : State, s.vm.Alike t.vm → H.size ≤ t.heap.size → (∀ q : Nat, q < H.size → t.heap[q]? = H[q]?) → XC cls s t)
    (hf : ∀ z ∈ locs, free z.base) (hc : cells + 1 ≤ mc) (hs : slots + 6 ≤ ms) :
    W p l e R s m args below meth c H locs cells slots (vx_MQ below Qc XC args s mc ms free) (F0 m pc ls rest) := by
  intro T hT X
  have htr : e.platform.stackTraces = false := (show e.platform.stackTraces = l.stackTraces by rw [X.admits.platform]).trans hl
  have Y := vx_rebase X (R' := { frames := R.frames, locals := R.locals, cells := 1, slots := 6 }) (Nat.le_refl _) (Nat.le_refl _) hRcells hRslots
  obtain ⟨s', hA⟩ : ∃ z, z = (T.setVm s.vm).setFrames (.invoking m args :: below) := ⟨_, rfl⟩
  rw [← hA] at Y
  have hvm : s'.vm = s.vm := by rw [hA]; rfl
  have hhp : s'.heap = H := by rw [hA]; exact hT
  have hW0 : s.WarmedH s'.vm := by rw [hvm]; exact State.WarmedH.refl s
  have hat' : ∀ w ∈ vx_atS own ic cls names, w.before args s' = true := fun w hw => vx_ot_at hW0 hvm.symm (hgood w (List.mem_cons_of_mem _ (List.mem_cons_of_mem _ hw))) (hat w hw)
  have hk' : (Cond.classLink own ik cls).before args s' = true := vx_ot_at hW0 hvm.symm (hgood _ List.mem_cons_self) hk
  have hini' : (Cond.initialized cls).before args s' = true := vx_ot_at hW0 hvm.symm (hgood _ (List.mem_cons_of_mem _ List.mem_cons_self)) hini
  have hU' : vx_Zq Bundle.tN "UNASSIGNED_STACK" Bundle.steD A s' s'.heap := by rw [hhp]; exact vx_Zq.moved hW0.alike (hU.kept hS.2.1)
  have hN' : vx_Zq Bundle.tN "SUPPRESSED_SENTINEL" Bundle.listD A s' s'.heap := by rw [hhp]; exact vx_Zq.moved hW0.alike (hN.kept hS.2.1)
  have h : ∀ w ∈ Bundle.ownAtoms own ic cls names, w.before args s' = true := vx_own hat' (vx_isRefq hU'.1) (vx_isRefq hN'.1) hU'.2.word hN'.2.word
  have hown' : s'.vm.findClass own = some m.cls := by rw [hvm]; exact hown
  have hins : (Cond.instantiable cls 6).before args s' = true := h _ (by simp [Bundle.ownAtoms])
  obtain ⟨vm₁, cX, kX, hfX, hkX, -, -, X₁, st1⟩ := Y.newCold hexec (own := own) (C := cls) (index := ik) (n := 6) hown' hk' hins hini'
    (g := F0 m pc ls rest) rfl (by rw [hb]; exact d0) (Nat.le_refl _) (Nat.le_refl _)
  generalize hT1 : (T.setVm vm₁).pushCell { cls := cX, slots := kX.instanceTypes.map defaultValue, vm := .none } = T1 at X₁ st1
  have hcat : (Value.ref T.heap.size).category = 1 := rfl
  have hcellA : T1.heap[T.heap.size]? = some (freshCell cX kX) := by rw [← hT1]; exact State.heap_pushCell_size _ _
  have d3' : decode c.code (pc + 3) = .ok (.dup, 1) := by rw [hb]; exact d3
  have d4' : decode c.code (pc + 4) = .ok (.ldc_w is, 3) := by rw [hb]; exact d4
  have hstr' : vk_R own is text sa s' := vk_R.warm hW0 hstr
  obtain ⟨U, hsteps, hrun, hend, hW, hsame, ce, hce, hO⟩ := X₁.ctorThrowS hexec htr (own := own) (cls := cls) (names := names) (ic := ic) hown' hcls hnames h (fun x hx => nomatch hx) hfX hkX hcellA (by rw [hhp, hT]; exact Nat.le_refl _) (msg := .ref sa) rfl
    (g := { method := m, pc := pc + 7, locals := ls, stack := .ref sa :: .ref T.heap.size :: .ref T.heap.size :: rest, locked := none }) rfl hsize rfl rfl (rest := rest) rfl
    (by rw [hb]; exact d7) (by rw [hb]; exact d10) hout hRframes (by simp only [List.map_cons, List.sum_cons, hcat]; omega) hlocks
  obtain ⟨f1, f2⟩ := vx_frame hsame
  rw [hhp] at f1 f2
  have hWs : s.WarmedH U.vm := State.WarmedH.trans hW0 hW
  have hcl : s.vm.findClass cls = some ce.cls := by
    have h9 := hO.cls
    rw [hvm] at h9
    exact h9
  have hall : s.sameButNew ({ U with vm := s.vm } : State) locs mc ms := by
    subst hA
    obtain ⟨e1, e2⟩ := hsame
    rw [State.setFrames_setFrames] at e1
    have h2 : (T.setVm s.vm).sameButNew ({ U with vm := s.vm } : State) [] (0 + 1) (0 + 6) := ⟨e1, e2⟩
    have h3 := X.same.trans h2
    rw [List.append_nil] at h3
    exact h3.mono hc hs
  refine ⟨U, ?_, .threw T.heap.size, hrun, hend, Or.inr ⟨T.heap.size, rfl, cls, ce, locs, hx U hWs.alike f1 (fun q hq => f2 q hq (fun z hz => nomatch hz)), hce, hO.vm, hcl, hWs, hall, hf⟩⟩
  refine st1 _ ?_
  show Steps p.tables e below (T1.setTop { method := m, pc := pc + 3, locals := ls, stack := .ref T.heap.size :: rest, locked := none }) _
  jvm_step X₁.here [X₁.here.top, hexec, d3', Value.category]
  exact X₁.ldcStringW hexec (own := own) (text := text) (index := is) (a := sa) hown' hstr'.1 hstr'.2
    (g := { method := m, pc := pc + 4, locals := ls, stack := .ref T.heap.size :: .ref T.heap.size :: rest, locked := none }) rfl d4' _ hsteps
end Ends
section Bodies
variable {l : Launch}
theorem vx_ofW {y : MethodName} {ws ws' : List Cond} {rm : Room} {Pc : Array Value → State → Prop} {Qc : Array Value → State → Outcome → State → Prop} {XC : String → State → State → Prop} {mc ms : Nat} {free : Addr → Prop} {cc : ByteArray} {maxL : Nat} {ret : Option FieldType}
    (hy : plainName y.cls = true) (hw : ws = Cond.code y cc maxL ret :: ws')
    (body : ∀ p e s m args below meth c s₁, BodyLoose p l y (headSpec ws rm) cc maxL ret e s m args below meth c s₁ → c.maxLocals = maxL → (∀ x ∈ c.exceptionTable.toList, False) → Pc args s →
      W p l e (headSpec ws rm).room s m args below meth c s.heap [] 0 0 (vx_MQ below Qc XC args s mc ms free) (entryFrame m args maxL)) : vx_Met l y ws rm Pc Qc XC mc ms free := by
  refine MetFree.of_bodyS (code := cc) (maxLocals := maxL) (ret := ret) hy ?_ ?_
  · intro args s m h hn
    obtain ⟨meth, c, h1, h2, h3, h4, h5, h6, -, -⟩ := Cond.code_spec hn (atoms_spec (ws := ws) h _ (by rw [hw]; exact List.mem_cons_self))
    exact ⟨meth, c, h1, h2, h3, h4, h5, h6⟩
  · intro p e s m args below meth c s₁ B hml hP _
    have hh0 : s₁.heap = s.heap := by rw [B.state]; rfl
    have ht : ∀ x ∈ c.exceptionTable.toList, False := by
      obtain ⟨meth9, c9, h1, h2, -, -, -, -, h7, -⟩ := Cond.code_spec B.named (atoms_spec (ws := ws) B.pre _ (by rw [hw]; exact List.mem_cons_self))
      cases Option.some.inj (h1.symm.trans B.method)
      cases Option.some.inj (h2.symm.trans (Stand.of_body B).code)
      intro x hx
      rw [Array.isEmpty_iff.mp h7] at hx
      cases hx
    obtain ⟨t, a1, o, b1, b2, b3⟩ := body p e s m args below meth c s₁ B hml ht hP s₁ hh0 (Stand.of_body B)
    exact ⟨t, o, a1, b1, b2, b3⟩
/-- the table of a body with handlers -/
theorem vx_table {p : Program} {x y : MethodName} {S : Spec} {cc bytes : ByteArray} {maxL maxL' : Nat} {ret ret' : Option FieldType} {e : Env} {s s₁ : State} {m : MethodId} {args : Array Value} {below : List Frame} {meth : Method} {c : Code} {hh : List (Nat × Nat × Nat × Nat)}
    (B : BodyLoose p l y S cc maxL ret e s m args below meth c s₁) (h : (Cond.codeWith y bytes maxL' ret' hh).before args s = true) : c.exceptionTable.toList = tableOf hh := by
  obtain ⟨m9, meth9, c9, hn9, h1, h2, -, -, h6, -⟩ := Cond.codeWith_spec h
  cases Option.some.inj (hn9.symm.trans B.named)
  cases Option.some.inj (h1.symm.trans B.method)
  cases Option.some.inj (h2.symm.trans (Stand.of_body B).code)
  rw [← h6, table_eq]
end Bodies
end VXA
/-! ===== END ===== -/
/-! ===== BEGIN a static call of a method with an exception table ===== -/
section VXS
variable {p : Program} {l : Launch} {e : Env} {R : Room} {s : State} {m : MethodId} {args : Array Value} {below : List Frame} {meth : Method} {c : Code} {T : State} {H : Heap} {locs : List Loc} {cells slots : Nat}
abbrev vx_CSW (R : Room) (s : State) (args : Array Value) (own : String) (index : Nat) (y : MethodName) (bytes : ByteArray) (maxL : Nat) (ret : Option FieldType) (hh : List (Nat × Nat × Nat × Nat)) (ws : List Cond) (rm : Room) (mc ms n : Nat) : Prop :=
  (rm.cells = mc ∧ rm.slots = ms ∧ rm.frames + 1 ≤ R.frames ∧ 8 + (maxL + 11) + rm.locals ≤ R.locals ∧ (∀ w ∈ ws, ∀ (a' : Array Value) (U : State), s.WarmedH U.vm → w.before a' U = true) ∧ Cond.codeWith y bytes maxL ret hh ∈ ws) ∧
  (Cond.codeWith y bytes maxL ret hh).before args s = true ∧ (Cond.initialized y.cls).before args s = true ∧ (y.cls ≠ "java/lang/invoke/MethodHandle" ∧ y.cls ≠ "java/lang/invoke/VarHandle") ∧
  (∀ sig, parseMethodDescriptor y.desc = some sig → n = sig.parameters.length) ∧ (Cond.methodLink own index y).before args s = true ∧ (Cond.static y).before args s = true
theorem vx_cwSW {own : String} {index maxL mc ms : Nat} {y : MethodName} {bytes : ByteArray} {ret : Option FieldType} {hh : List (Nat × Nat × Nat × Nat)} {Ts ws ws' : List Cond} {rm : Room} (n : Nat) (ht : ∀ w ∈ Ts, w.before args s = true) (hT : GoodIn Ts (va_wsS own index y ws)) (hw : ws = Cond.codeWith y bytes maxL ret hh :: ws') (hrc : rm.cells = mc) (hrs : rm.slots = ms)
    (hd : y.cls ≠ "java/lang/invoke/MethodHandle" ∧ y.cls ≠ "java/lang/invoke/VarHandle" ∧ (parseMethodDescriptor y.desc).map (fun d => d.parameters.length) = some n) (hR : rm.frames + 1 ≤ R.frames ∧ 8 + (maxL + 11) + rm.locals ≤ R.locals) :
    vx_CSW R s args own index y bytes maxL ret hh ws rm mc ms n := by
  have ok : ∀ w ∈ va_wsS own index y ws, w.before args s = true := fun w h => ht w (hT w h).1
  have hG : GoodIn Ts ws := fun w h => hT w (by unfold va_wsS; exact List.mem_append_right _ h)
  have hc : Cond.codeWith y bytes maxL ret hh ∈ ws := by rw [hw]; exact List.mem_cons_self
  refine ⟨⟨hrc, hrs, hR.1, hR.2, pay_in ht hG, hc⟩, ht _ (hG _ hc).1, ok _ (by simp [va_wsS]), ⟨hd.1, hd.2.1⟩, fun sig h => ?_, ok _ (by simp [va_wsS]), ok _ (by simp [va_wsS])⟩
  have h2 := hd.2.2
  rw [h] at h2
  exact (Option.some.inj h2).symm
theorem vx_callSW (X : Stand p l e R s m args below meth c T locs cells slots) (hexec : p.tables.exec = Jvm.exec) {own : String} {index : Nat} {y : MethodName} {bytes : ByteArray} {maxL : Nat} {ret : Option FieldType} {hh : List (Nat × Nat × Nat × Nat)}
    (hown : s.vm.findClass own = some m.cls) (hlink : (Cond.methodLink own index y).before args s = true) (hstat : (Cond.static y).before args s = true) (hinit : (Cond.initialized y.cls).before args s = true)
    (hcode : (Cond.codeWith y bytes maxL ret hh).before args s = true) (hy : y.cls ≠ "java/lang/invoke/MethodHandle" ∧ y.cls ≠ "java/lang/invoke/VarHandle")
    {W9 : Nat} {Pre : Pt → Array Value → Prop} {Post : Pt → Array Value → Option Value → Pt → Prop} (hK : Back l R p e below s args y 3 W9 Pre Post)
    {g : JFrame} (hg : g.method = m) (hsize : g.locals.size = c.maxLocals) {argsL rest : List Value} (hlen : ∀ sig, parseMethodDescriptor y.desc = some sig → argsL.length = sig.parameters.length)
    (hstack : g.stack = argsL.reverse ++ rest) (hW : 2 * g.monitorRoom + (rest.map fun v => v.category).sum ≤ W9) (hdg : decode c.code g.pc = .ok (.invokestatic index, 3))
    (hpre : ∀ vm₁, s.WarmedH vm₁ → Pre ⟨T.setVm vm₁, locs, cells, slots⟩ argsL.toArray) :
    ∃ (v : Option Value) (vm₁ : Vm) (B : Pt), s.WarmedH vm₁ ∧ Stand p l e R s m args below meth c B.U B.locs B.cells B.slots ∧ Post ⟨T.setVm vm₁, locs, cells, slots⟩ argsL.toArray v B ∧
      ∀ target, Steps p.tables e below (B.U.setTop { g with pc := g.pc + 3, stack := v.toList ++ rest }) target → Steps p.tables e below (T.setTop g) target := by
  obtain ⟨mk, methM, cM, hnamed, hmethM, -, -, -, -, -, -, hsigM⟩ := Cond.codeWith_spec hcode
  have hstatic : methM.isStatic = true := Cond.static_spec hnamed hmethM hstat
  obtain ⟨kP, hkP, -⟩ := className_of_methodNamed hnamed
  have hinitP : kP.init = .initialized := Cond.initialized_spec (findClass_of_methodNamed hnamed) hkP hinit
  obtain ⟨vm₁, X₁, hstep₁⟩ := X.invokestatic hexec hown hlink hnamed hmethM hstatic hkP hinitP hy (g := g) hg (argsL := argsL) (rest := rest) (hlen _ hsigM) hstack hdg
  obtain ⟨v, B, X', hpost, hsteps⟩ := hK m meth c ⟨T.setVm vm₁, locs, cells, slots⟩ { g with stack := rest } (.invokestatic index) mk argsL.toArray X₁ hg hsize hdg hW (X₁.named hnamed) (hpre vm₁ X₁.warmed)
  exact ⟨v, vm₁, B, X₁.warmed, X', hpost, fun target h => hstep₁ _ fun acts => by rw [doInvoke_state]; exact hsteps.trans h⟩
theorem vx_runSW {y : MethodName} {bytes cc : ByteArray} {maxL nL mc ms n index : Nat} {ret : Option FieldType} {hh : List (Nat × Nat × Nat × Nat)} {ws : List Cond} {rm : Room} {Pc : Array Value → State → Prop} {Qc : Array Value → State → Outcome → State → Prop} {free : Addr → Prop} {Ts : List Cond} {own : String} {As rest : List Value} {g : JFrame}
    (S : CallFix p m c cc nL s args Ts own) (hM : Met l y ws rm Pc Qc mc ms free) (cw : vx_CSW R s args own index y bytes maxL ret hh ws rm mc ms n) (hp : PreS s H Pc As)
    (hg : g.method = m) (hn : As.length = n) (hsize : g.locals.size = nL) (hstack : g.stack = As.reverse ++ rest) (hW : 2 * g.monitorRoom + (rest.map fun v => v.category).sum ≤ 8) (hdg : decode cc g.pc = .ok (.invokestatic index, 3)) (hf : cells + mc ≤ R.cells ∧ slots + ms ≤ R.slots) :
    va_Run p l e R s m args below meth c H locs cells slots mc ms g rest (Qc As.toArray) (free) := by
  obtain ⟨⟨hrc, hrs, hfr, hlo, hws, hcw⟩, hcode, hini, hy, hlen, hl, hstt⟩ := cw
  have hK : Back l R p e below s args y 3 8 (PreOf R mc ms Pc) (PostOf Qc mc ms free) := va_backW (hh := hh) (bytes := bytes) (maxL := maxL) (ret := ret) hM hp.1 hrc hrs hfr hlo hws hcw (fun a' U hW => word_at hW (Or.inl (by first | rfl | simp [Cond.onTables, Cond.keeps, Cond.steady])) hini)
  obtain ⟨hx, hb, hml, ho, -⟩ := S
  intro T hT X
  obtain ⟨v, vm₁, ⟨U', l2, c2, s2⟩, hW₁, X', ⟨g', mk, t, L, e1, e2, hq, h1, hL, h2, h3⟩, st⟩ := vx_callSW X hx (hh := hh) (bytes := bytes) (maxL := maxL) (ret := ret) ho hl hstt hini hcode hy hK hg (hsize.trans hml.symm) (argsL := As) (rest := rest) (fun sig h => hn.trans (hlen sig h)) hstack hW (by rw [hb]; exact hdg)
    (fun vm₁ hW₁ => ⟨hf.1, hf.2, hp.2 (T.setVm vm₁) hT hW₁⟩)
  dsimp only [Pt.U, Pt.locs, Pt.cells, Pt.slots] at X' e1 e2 h1 h2 h3 st
  subst h1; subst h2; subst h3
  exact ⟨v, (T.setVm vm₁).calling g' mk As.toArray, t, U', L, hT, X', hL, e1, e2, hq, st⟩
/-- not caught here, past rows that name other classes: it goes on to the caller -/
theorem vx_outP {p : Program} {l : Launch} {e : Env} {R : Room} {s : State} {m : MethodId} {args : Array Value} {below : List Frame} {meth : Method} {c : Code} {H : Heap} {locs : List Loc} {cells slots : Nat} {free : Addr → Prop} {ls : Array Slot} {rest : List Value} {Qc : Array Value → State → Outcome → State → Prop} {XC : String → State → State → Prop}
    {pc : Nat} {own E : String} {ce : Cell} {q : Addr} {mc ms : Nat} (hown : s.vm.findClass own = some m.cls) (hlocks : meth.locks = false)
    (hpass : ∀ z ∈ c.exceptionTable.toList, covers z pc = false ∨ (z.catchType ≠ 0 ∧ ∃ nm : String, (Cond.classLink own z.catchType nm).before args s = true ∧ va_Nc E nm s)) (hcell : H[q]? = some ce) (hv : ce.vm = .none) (hcl : s.vm.findClass E = some ce.cls)
    (hx : ∀ t : State, t.heap = H → s.vm.Alike t.vm → XC E s t) (hf : ∀ z ∈ locs, free z.base) (hc : cells ≤ mc) (hs : slots ≤ ms) :
    vx_W p l e R s m args below meth c H locs cells slots (vx_MQ below Qc XC args s mc ms free) (F0 m pc ls rest) q := by
  intro T hT X
  have hpl : e.platform.magicAccessors = ({} : Platform).magicAccessors := by rw [X.admits.platform]
  obtain ⟨vm', hW', X', st⟩ := X.outThrough hlocks q (g := F0 m pc ls rest) rfl rfl rfl (cell := ce) (by rw [hT]; exact hcell) (by rw [hv]; rfl)
    (by obtain ⟨k9, h9, -⟩ := Vm.findClass_spec hcl; exact ⟨k9, h9⟩) (fun z hz => by
      rcases hpass z hz with h | ⟨hz0, nm, hl1, hn1⟩
      · exact Or.inl h
      · obtain ⟨c6, hc6, hcl6⟩ := Cond.classLink_spec hown hl1 e.platform hpl
        obtain ⟨a8, b8, h1, h2, h3⟩ := hn1
        cases Option.some.inj (h1.symm.trans hcl)
        cases Option.some.inj (h2.symm.trans hc6)
        exact Or.inr ⟨hz0, _, hcl6, h3⟩)
  obtain ⟨g₀, hfr⟩ := X'.frames_eq
  have hcell9 : ((T.setVm vm').setFrames (.throwing q :: below)).heap[q]? = some ce := by
    show T.heap[q]? = some ce
    rw [hT]; exact hcell
  have hend : Ended ((T.setVm vm').setFrames (.throwing q :: below)) below (.threw q) := State.frames_setFrames _ (State.cur_lt_of_frames hfr)
  refine ⟨(T.setVm vm').setFrames (.throwing q :: below), ?_, .threw q, X'.here.running, hend, Or.inr ⟨q, rfl, E, ce, locs, hx _ hT (X'.ends _).1.alike, hcell9, hv, hcl, (X'.ends _).1, (X'.ends _).2.mono hc hs, hf⟩⟩
  rw [X.pushThrowing_eq]
  exact st
/-- a thing of a world lies in the heap -/
theorem vx_lt {D : va_G} {cl : List vw_C} {ws : va_W} {H1 : Heap} (h : va_P D cl ws H1) {k : Nat} {q : Nat × va_E} (hk : ws[k]? = some q) : q.1 < H1.size := (h k q hk).lt
end VXS
/-! ===== END ===== -/
/-! ===== BEGIN methods with a table of their own: called by a name, returning or throwing ===== -/
section VXH
/-! vx_backW, vx_callVX, vx_callSX, vx_callVW, vx_runVW, vx_runVX, vx_runSX, vx_ofWH follow the same proofs as their sisters above (Free/Laws.lean, Shelf42/LK1.lean); vx_outP calls Shelf42/NT130.lean (outThrough). -/
section
variable {l : Launch} {R : Room} {p : Program} {e : Env} {below : List Frame} {s : State} {sargs : Array Value} {y : MethodName} {len W9 : Nat}
theorem vx_backW {ws : List Cond} {rm : Room} {Pc : Array Value → State → Prop} {Qc : Array Value → State → Outcome → State → Prop} {XC : String → State → State → Prop} {mc ms : Nat} {free : Addr → Prop} {bytes : ByteArray} {maxL : Nat} {ret : Option FieldType} {hh : List (Nat × Nat × Nat × Nat)}
    (hM : vx_Met l y ws rm Pc Qc XC mc ms free) (hblind : FrameBlind Pc) (hrc : rm.cells = mc) (hrs : rm.slots = ms)
    (hframes : rm.frames + 1 ≤ R.frames) (hlocals : W9 + (maxL + 11) + rm.locals ≤ R.locals)
    (hws : ∀ w ∈ ws, ∀ a' U, s.WarmedH U.vm → w.before a' U = true) (hcode : Cond.codeWith y bytes maxL ret hh ∈ ws) (hinit : ∀ a' U, s.WarmedH U.vm → (Cond.initialized y.cls).before a' U = true) :
    vx_Back l R p e below s sargs y len W9 (PreOf R mc ms Pc) (PostOf Qc mc ms free) (vx_Post XC mc ms free) := by
  intro m meth c A g ig mk a X hg hsize hdg hW hn hp
  have h1 : (headSpec ws rm).pre.before a A.U = true := atoms_intro fun w hw => hws w hw _ _ X.warmed
  have h2 : (Cond.codeWith y bytes maxL ret hh).before a A.U = true := hws _ hcode _ _ X.warmed
  have h3 : (Cond.initialized y.cls).before a A.U = true := hinit _ _ X.warmed
  have h4 : A.cells + (headSpec ws rm).room.cells ≤ R.cells := by rw [show (headSpec ws rm).room.cells = mc from hrc]; exact hp.1
  have h5 : A.slots + (headSpec ws rm).room.slots ≤ R.slots := by rw [show (headSpec ws rm).room.slots = ms from hrs]; exact hp.2.1
  have hPc : Pc a (A.U.calling g mk a) := hblind _ _ _ _ hp.2.2
  obtain ⟨U, Ls, c0, s0⟩ := A
  dsimp only [Pt.U, Pt.locs, Pt.cells, Pt.slots] at h1 h2 h3 h4 h5 X hn hPc ⊢
  obtain ⟨m9, methY, cY, hn9, hmY, hcY, -, hlY, -⟩ := Cond.codeWith_spec h2
  cases Option.some.inj (hn9.symm.trans hn)
  obtain ⟨kY, hkY, -⟩ := className_of_methodNamed hn
  have hinitY : kY.init = .initialized := Cond.initialized_spec (findClass_of_methodNamed hn) hkY h3
  have h : At U g.method c below := by rw [hg]; exact X.here
  have hlocals9 : W9 + (maxL + 11) + (headSpec ws rm).room.locals ≤ R.locals := hlocals
  have happ : (headSpec ws rm).appliesLoose y e.platform (U.calling g mk a) = true :=
    Spec.appliesLoose_calling (g := g) h hdg hn hkY hinitY
      (X.room_calling (g := g) (R' := (headSpec ws rm).room) hsize hmY hcY hframes (by rw [hlY]; omega) h4 h5) h1
  obtain ⟨mid, hmid⟩ := h.above
  have hfr : (U.setTop g).frames = (.java g :: mid) ++ below := by rw [State.frames_setTop' g h.top, hmid]; rfl
  obtain ⟨o, s₂, hsteps, -, hend, hq⟩ := Steps.callFree hM p X.admits X.cas X.clock (acts := []) hfr happ hPc trivial
  have hq' : vx_Q Qc XC mc ms free a (U.calling g mk a) o s₂ := hq
  rw [State.frames_setTop' g h.top] at hend
  obtain ⟨g₀, hg0⟩ := Option.isSome_iff_exists.mp h.top
  obtain ⟨r, hr⟩ := State.topJava?_eq_some.mp hg0
  have hr' : (({ U with heap := s₂.heap, slotsUsed := s₂.slotsUsed } : State).setVm s₂.vm).frames = .java g₀ :: r := hr
  rcases hq' with ⟨hqc, L, hfe, hL⟩ | ⟨q, rfl, E, ce, L, hx, hce, hcv, hcl, hW₂, hsm, hL⟩
  · obtain ⟨⟨v, rfl⟩, hW₂, e2, q2, q3, q4, q5, q6⟩ := id hfe
    have e3 : s₂ = ({ (U.calling g mk a).setFrames s₂.frames with heap := s₂.heap, slotsUsed := s₂.slotsUsed } : State).setVm s₂.vm := by
      have : s₂ = ({ s₂ with vm := (U.calling g mk a).vm } : State).setVm s₂.vm := rfl
      rw [e2] at this
      exact this
    obtain ⟨c₂, i₂, len₂, hc₂, hd₂, hf₂⟩ := hend
    have hW' : U.WarmedH s₂.vm := hW₂
    have hcc : c₂ = c := by
      have h1 : s₂.code? g.method = U.code? g.method := by
        rw [State.code?_eq, State.code?_eq, hW'.alike.method?]
      exact Option.some.inj (hc₂.symm.trans (h1.trans h.code))
    subst hcc
    have hlen : len₂ = len := by rw [hdg] at hd₂; cases hd₂; rfl
    subst hlen
    have hs₂ : s₂ = (({ U with heap := s₂.heap, slotsUsed := s₂.slotsUsed } : State).setVm s₂.vm).setTop { g with pc := g.pc + len₂, stack := v.toList ++ g.stack } := by
      refine e3.trans ?_
      rw [hf₂, State.calling_eq h.top, State.setFrames_setFrames, State.setTop_of_frames _ hr', hr]
      rfl
    have hsame : U.sameButNew ({ U with heap := s₂.heap, slotsUsed := s₂.slotsUsed } : State) L mc ms := by
      refine ⟨?_, q2, q3, q4, q5, q6⟩
      obtain ⟨t, ht, -⟩ := State.frames_cons hr
      show ({ U with heap := s₂.heap, slotsUsed := s₂.slotsUsed } : State) = { U.setFrames U.frames with heap := s₂.heap, slotsUsed := s₂.slotsUsed }
      rw [State.setFrames_self ht]
    subst hg
    refine Or.inl ⟨v, ⟨(({ U with heap := s₂.heap, slotsUsed := s₂.slotsUsed } : State).setVm s₂.vm), Ls ++ L, c0 + mc, s0 + ms⟩,
      ⟨X.admits, X.cas, X.clock, X.frames, X.room, X.hears, X.method, X.code, (X.here.setHeapUsed s₂.heap s₂.slotsUsed).setVm hW'.alike, X.tail, State.WarmedH.trans X.warmed hW', X.limits, X.bytes, X.same.trans (hsame.setVm s.vm)⟩,
      ⟨g, mk, s₂, L, rfl, rfl, hqc, rfl, hL, rfl, rfl⟩, ?_⟩
    show Steps p.tables e below _ ((({ U with heap := s₂.heap, slotsUsed := s₂.slotsUsed } : State).setVm s₂.vm).setTop { g with pc := g.pc + len₂, stack := v.toList ++ g.stack })
    rw [← hs₂]
    exact hsteps
  · obtain ⟨e2, q2, q3, q4, q5, q6⟩ := id hsm
    have e3 : s₂ = ({ (U.calling g mk a).setFrames s₂.frames with heap := s₂.heap, slotsUsed := s₂.slotsUsed } : State).setVm s₂.vm := by
      have : s₂ = ({ s₂ with vm := (U.calling g mk a).vm } : State).setVm s₂.vm := rfl
      rw [e2] at this
      exact this
    have hf₂ : s₂.frames = .throwing q :: .java g :: U.frames.tail := hend
    have hW' : U.WarmedH s₂.vm := hW₂
    have hs₂ : s₂ = ((({ U with heap := s₂.heap, slotsUsed := s₂.slotsUsed } : State).setVm s₂.vm).setTop g).pushFrame (.throwing q) := by
      refine e3.trans ?_
      rw [hf₂, State.calling_eq h.top, State.setFrames_setFrames, State.pushFrame, State.frames_setTop _ hr', State.setTop_of_frames _ hr', State.setFrames_setFrames, hr]
      rfl
    have hsame : U.sameButNew ({ U with heap := s₂.heap, slotsUsed := s₂.slotsUsed } : State) L mc ms := by
      refine ⟨?_, q2, q3, q4, q5, q6⟩
      obtain ⟨t, ht, -⟩ := State.frames_cons hr
      show ({ U with heap := s₂.heap, slotsUsed := s₂.slotsUsed } : State) = { U.setFrames U.frames with heap := s₂.heap, slotsUsed := s₂.slotsUsed }
      rw [State.setFrames_self ht]
    subst hg
    refine Or.inr ⟨q, ⟨(({ U with heap := s₂.heap, slotsUsed := s₂.slotsUsed } : State).setVm s₂.vm), Ls ++ L, c0 + mc, s0 + ms⟩,
      ⟨X.admits, X.cas, X.clock, X.frames, X.room, X.hears, X.method, X.code, (X.here.setHeapUsed s₂.heap s₂.slotsUsed).setVm hW'.alike, X.tail, State.WarmedH.trans X.warmed hW', X.limits, X.bytes, X.same.trans (hsame.setVm s.vm)⟩,
      ⟨g, mk, s₂, L, E, ce, rfl, rfl, hx, hce, hcv, hcl, rfl, hL, rfl, rfl⟩, ?_⟩
    show Steps p.tables e below _ (((({ U with heap := s₂.heap, slotsUsed := s₂.slotsUsed } : State).setVm s₂.vm).setTop g).pushFrame (.throwing q))
    rw [← hs₂]
    exact hsteps
end
variable {p : Program} {l : Launch} {e : Env} {R : Room} {s : State} {m : MethodId} {args : Array Value} {below : List Frame} {meth : Method} {c : Code} {T : State} {H : Heap} {locs : List Loc} {cells slots : Nat}
theorem vx_callVX (X : Stand p l e R s m args below meth c T locs cells slots) (hexec : p.tables.exec = Jvm.exec) {own C : String} {index : Nat} {y : MethodName} {bytes : ByteArray} {maxL : Nat} {ret : Option FieldType} {hh : List (Nat × Nat × Nat × Nat)}
    (hown : s.vm.findClass own = some m.cls) (hlink : (Cond.methodLink own index y).before args s = true) (hinst : (Cond.instanceMethod y).before args s = true) (hsel : (Cond.selects C y y).before args s = true)
    (hcode : (Cond.codeWith y bytes maxL ret hh).before args s = true) (hy : y.cls ≠ "java/lang/invoke/MethodHandle" ∧ y.cls ≠ "java/lang/invoke/VarHandle")
    {W9 : Nat} {Pre : Pt → Array Value → Prop} {Post : Pt → Array Value → Option Value → Pt → Prop} {PostX : Pt → Array Value → Addr → Pt → Prop} (hK : vx_Back l R p e below s args y 3 W9 Pre Post PostX)
    {b : Addr} {cellB : Cell} (hcell : T.heap[b]? = some cellB) (hobj : cellB.vm.isStatics = false) (hcls : s.vm.findClass C = some cellB.cls)
    {g : JFrame} (hg : g.method = m) (hsize : g.locals.size = c.maxLocals) {argsL rest : List Value} (hlen : ∀ sig, parseMethodDescriptor y.desc = some sig → argsL.length = sig.parameters.length)
    (hstack : g.stack = argsL.reverse ++ .ref b :: rest) (hW : 2 * g.monitorRoom + (rest.map fun v => v.category).sum ≤ W9) (hdg : decode c.code g.pc = .ok (.invokevirtual index, 3))
    (hpre : ∀ vm₁, s.WarmedH vm₁ → Pre ⟨T.setVm vm₁, locs, cells, slots⟩ (Value.ref b :: argsL).toArray) :
    (∃ (v : Option Value) (vm₁ : Vm) (B : Pt), s.WarmedH vm₁ ∧ Stand p l e R s m args below meth c B.U B.locs B.cells B.slots ∧ Post ⟨T.setVm vm₁, locs, cells, slots⟩ (Value.ref b :: argsL).toArray v B ∧
      ∀ target, Steps p.tables e below (B.U.setTop { g with pc := g.pc + 3, stack := v.toList ++ rest }) target → Steps p.tables e below (T.setTop g) target) ∨
    (∃ (q : Addr) (vm₁ : Vm) (B : Pt), s.WarmedH vm₁ ∧ Stand p l e R s m args below meth c B.U B.locs B.cells B.slots ∧ PostX ⟨T.setVm vm₁, locs, cells, slots⟩ (Value.ref b :: argsL).toArray q B ∧
      Steps p.tables e below (T.setTop g) ((B.U.setTop { g with stack := rest }).pushFrame (.throwing q))) := by
  obtain ⟨mk, methM, hnamed, hmethM, hstM, habM⟩ := Cond.instanceMethod_spec hinst
  obtain ⟨m8, methM', cM, hn8, hmethM', -, -, -, -, -, -, hsigM⟩ := Cond.codeWith_spec hcode
  cases Option.some.inj (hn8.symm.trans hnamed)
  cases hmethM.symm.trans hmethM'
  obtain ⟨c2, r2, m2, q1, q2, q3, q4, kP, hkP, hkPi⟩ := Cond.selects_spec hsel
  cases hcls.symm.trans q1
  cases (State.methodFound?_of_named hnamed hy).symm.trans q2
  cases hnamed.symm.trans q3
  have hselP : selectMethod e.platform s.vm cellB.cls mk = .method mk := by rw [Launch.admits_selectMethod X.admits]; exact q4
  obtain ⟨vm₁, X₁, hstep₁⟩ := X.invokevirtual hexec hown hlink hnamed hmethM hstM hkP hkPi hy (a := b) (cell := cellB) hcell
    (fun z h => by rw [h] at hobj; cases hobj) hselP hmethM habM hkP hkPi (g := g) hg (argsL := argsL) (rest := rest) (hlen _ hsigM) hstack hdg
  rcases hK m meth c ⟨T.setVm vm₁, locs, cells, slots⟩ { g with stack := rest } (.invokevirtual index) mk (Value.ref b :: argsL).toArray X₁ hg hsize hdg hW (X₁.named hnamed) (hpre vm₁ X₁.warmed) with ⟨v, B, X', hpost, hsteps⟩ | ⟨q, B, X', hpost, hsteps⟩
  · exact Or.inl ⟨v, vm₁, B, X₁.warmed, X', hpost, fun target h => hstep₁ _ fun acts => by rw [doInvoke_state]; exact hsteps.trans h⟩
  · exact Or.inr ⟨q, vm₁, B, X₁.warmed, X', hpost, hstep₁ _ fun acts => by rw [doInvoke_state]; exact hsteps⟩
theorem vx_callSX (X : Stand p l e R s m args below meth c T locs cells slots) (hexec : p.tables.exec = Jvm.exec) {own : String} {index : Nat} {y : MethodName} {bytes : ByteArray} {maxL : Nat} {ret : Option FieldType} {hh : List (Nat × Nat × Nat × Nat)}
    (hown : s.vm.findClass own = some m.cls) (hlink : (Cond.methodLink own index y).before args s = true) (hstat : (Cond.static y).before args s = true) (hinit : (Cond.initialized y.cls).before args s = true)
    (hcode : (Cond.codeWith y bytes maxL ret hh).before args s = true) (hy : y.cls ≠ "java/lang/invoke/MethodHandle" ∧ y.cls ≠ "java/lang/invoke/VarHandle")
    {W9 : Nat} {Pre : Pt → Array Value → Prop} {Post : Pt → Array Value → Option Value → Pt → Prop} {PostX : Pt → Array Value → Addr → Pt → Prop} (hK : vx_Back l R p e below s args y 3 W9 Pre Post PostX)
    {g : JFrame} (hg : g.method = m) (hsize : g.locals.size = c.maxLocals) {argsL rest : List Value} (hlen : ∀ sig, parseMethodDescriptor y.desc = some sig → argsL.length = sig.parameters.length)
    (hstack : g.stack = argsL.reverse ++ rest) (hW : 2 * g.monitorRoom + (rest.map fun v => v.category).sum ≤ W9) (hdg : decode c.code g.pc = .ok (.invokestatic index, 3))
    (hpre : ∀ vm₁, s.WarmedH vm₁ → Pre ⟨T.setVm vm₁, locs, cells, slots⟩ argsL.toArray) :
    (∃ (v : Option Value) (vm₁ : Vm) (B : Pt), s.WarmedH vm₁ ∧ Stand p l e R s m args below meth c B.U B.locs B.cells B.slots ∧ Post ⟨T.setVm vm₁, locs, cells, slots⟩ argsL.toArray v B ∧
      ∀ target, Steps p.tables e below (B.U.setTop { g with pc := g.pc + 3, stack := v.toList ++ rest }) target → Steps p.tables e below (T.setTop g) target) ∨
    (∃ (q : Addr) (vm₁ : Vm) (B : Pt), s.WarmedH vm₁ ∧ Stand p l e R s m args below meth c B.U B.locs B.cells B.slots ∧ PostX ⟨T.setVm vm₁, locs, cells, slots⟩ argsL.toArray q B ∧
      Steps p.tables e below (T.setTop g) ((B.U.setTop { g with stack := rest }).pushFrame (.throwing q))) := by
  obtain ⟨mk, methM, cM, hnamed, hmethM, -, -, -, -, -, -, hsigM⟩ := Cond.codeWith_spec hcode
  have hstatic : methM.isStatic = true := Cond.static_spec hnamed hmethM hstat
  obtain ⟨kP, hkP, -⟩ := className_of_methodNamed hnamed
  have hinitP : kP.init = .initialized := Cond.initialized_spec (findClass_of_methodNamed hnamed) hkP hinit
  obtain ⟨vm₁, X₁, hstep₁⟩ := X.invokestatic hexec hown hlink hnamed hmethM hstatic hkP hinitP hy (g := g) hg (argsL := argsL) (rest := rest) (hlen _ hsigM) hstack hdg
  rcases hK m meth c ⟨T.setVm vm₁, locs, cells, slots⟩ { g with stack := rest } (.invokestatic index) mk argsL.toArray X₁ hg hsize hdg hW (X₁.named hnamed) (hpre vm₁ X₁.warmed) with ⟨v, B, X', hpost, hsteps⟩ | ⟨q, B, X', hpost, hsteps⟩
  · exact Or.inl ⟨v, vm₁, B, X₁.warmed, X', hpost, fun target h => hstep₁ _ fun acts => by rw [doInvoke_state]; exact hsteps.trans h⟩
  · exact Or.inr ⟨q, vm₁, B, X₁.warmed, X', hpost, hstep₁ _ fun acts => by rw [doInvoke_state]; exact hsteps⟩
theorem vx_callVW (X : Stand p l e R s m args below meth c T locs cells slots) (hexec : p.tables.exec = Jvm.exec) {own C : String} {index : Nat} {y : MethodName} {bytes : ByteArray} {maxL : Nat} {ret : Option FieldType} {hh : List (Nat × Nat × Nat × Nat)}
    (hown : s.vm.findClass own = some m.cls) (hlink : (Cond.methodLink own index y).before args s = true) (hinst : (Cond.instanceMethod y).before args s = true) (hsel : (Cond.selects C y y).before args s = true)
    (hcode : (Cond.codeWith y bytes maxL ret hh).before args s = true) (hy : y.cls ≠ "java/lang/invoke/MethodHandle" ∧ y.cls ≠ "java/lang/invoke/VarHandle")
    {W9 : Nat} {Pre : Pt → Array Value → Prop} {Post : Pt → Array Value → Option Value → Pt → Prop} (hK : Back l R p e below s args y 3 W9 Pre Post)
    {b : Addr} {cellB : Cell} (hcell : T.heap[b]? = some cellB) (hobj : cellB.vm.isStatics = false) (hcls : s.vm.findClass C = some cellB.cls)
    {g : JFrame} (hg : g.method = m) (hsize : g.locals.size = c.maxLocals) {argsL rest : List Value} (hlen : ∀ sig, parseMethodDescriptor y.desc = some sig → argsL.length = sig.parameters.length)
    (hstack : g.stack = argsL.reverse ++ .ref b :: rest) (hW : 2 * g.monitorRoom + (rest.map fun v => v.category).sum ≤ W9) (hdg : decode c.code g.pc = .ok (.invokevirtual index, 3))
    (hpre : ∀ vm₁, s.WarmedH vm₁ → Pre ⟨T.setVm vm₁, locs, cells, slots⟩ (Value.ref b :: argsL).toArray) :
    ∃ (v : Option Value) (vm₁ : Vm) (B : Pt), s.WarmedH vm₁ ∧ Stand p l e R s m args below meth c B.U B.locs B.cells B.slots ∧ Post ⟨T.setVm vm₁, locs, cells, slots⟩ (Value.ref b :: argsL).toArray v B ∧
      ∀ target, Steps p.tables e below (B.U.setTop { g with pc := g.pc + 3, stack := v.toList ++ rest }) target → Steps p.tables e below (T.setTop g) target := by
  obtain ⟨mk, methM, hnamed, hmethM, hstM, habM⟩ := Cond.instanceMethod_spec hinst
  obtain ⟨m8, methM', cM, hn8, hmethM', -, -, -, -, -, -, hsigM⟩ := Cond.codeWith_spec hcode
  cases Option.some.inj (hn8.symm.trans hnamed)
  cases hmethM.symm.trans hmethM'
  obtain ⟨c2, r2, m2, q1, q2, q3, q4, kP, hkP, hkPi⟩ := Cond.selects_spec hsel
  cases hcls.symm.trans q1
  cases (State.methodFound?_of_named hnamed hy).symm.trans q2
  cases hnamed.symm.trans q3
  have hselP : selectMethod e.platform s.vm cellB.cls mk = .method mk := by rw [Launch.admits_selectMethod X.admits]; exact q4
  obtain ⟨vm₁, X₁, hstep₁⟩ := X.invokevirtual hexec hown hlink hnamed hmethM hstM hkP hkPi hy (a := b) (cell := cellB) hcell
    (fun z h => by rw [h] at hobj; cases hobj) hselP hmethM habM hkP hkPi (g := g) hg (argsL := argsL) (rest := rest) (hlen _ hsigM) hstack hdg
  obtain ⟨v, B, X', hpost, hsteps⟩ := hK m meth c ⟨T.setVm vm₁, locs, cells, slots⟩ { g with stack := rest } (.invokevirtual index) mk (Value.ref b :: argsL).toArray X₁ hg hsize hdg hW (X₁.named hnamed) (hpre vm₁ X₁.warmed)
  exact ⟨v, vm₁, B, X₁.warmed, X', hpost, fun target h => hstep₁ _ fun acts => by rw [doInvoke_state]; exact hsteps.trans h⟩
abbrev vx_CVW (R : Room) (s : State) (args : Array Value) (own C : String) (index : Nat) (y : MethodName) (bytes : ByteArray) (maxL : Nat) (ret : Option FieldType) (hh : List (Nat × Nat × Nat × Nat)) (ws : List Cond) (rm : Room) (mc ms n : Nat) : Prop :=
  (rm.cells = mc ∧ rm.slots = ms ∧ rm.frames + 1 ≤ R.frames ∧ 8 + (maxL + 11) + rm.locals ≤ R.locals ∧ (∀ w ∈ ws, ∀ (a' : Array Value) (U : State), s.WarmedH U.vm → w.before a' U = true) ∧ Cond.codeWith y bytes maxL ret hh ∈ ws) ∧
  (Cond.codeWith y bytes maxL ret hh).before args s = true ∧ (Cond.initialized y.cls).before args s = true ∧ (y.cls ≠ "java/lang/invoke/MethodHandle" ∧ y.cls ≠ "java/lang/invoke/VarHandle") ∧
  (∀ sig, parseMethodDescriptor y.desc = some sig → n = sig.parameters.length) ∧ (Cond.methodLink own index y).before args s = true ∧ (Cond.instanceMethod y).before args s = true ∧ (Cond.selects C y y).before args s = true
theorem vx_cwVW {own C : String} {index maxL mc ms : Nat} {y : MethodName} {bytes : ByteArray} {ret : Option FieldType} {hh : List (Nat × Nat × Nat × Nat)} {Ts ws ws' : List Cond} {rm : Room} (n : Nat) (ht : ∀ w ∈ Ts, w.before args s = true) (hT : GoodIn Ts (wsV own index C y ws)) (hw : ws = Cond.codeWith y bytes maxL ret hh :: ws') (hrc : rm.cells = mc) (hrs : rm.slots = ms)
    (hd : y.cls = C ∧ y.cls ≠ "java/lang/invoke/MethodHandle" ∧ y.cls ≠ "java/lang/invoke/VarHandle" ∧ (parseMethodDescriptor y.desc).map (fun d => d.parameters.length) = some n) (hR : rm.frames + 1 ≤ R.frames ∧ 8 + (maxL + 11) + rm.locals ≤ R.locals) :
    vx_CVW R s args own C index y bytes maxL ret hh ws rm mc ms n := by
  obtain ⟨hC, hd⟩ := hd
  subst hC
  have ok : ∀ w ∈ wsV own index y.cls y ws, w.before args s = true := fun w h => ht w (hT w h).1
  have hG : GoodIn Ts ws := fun w h => hT w (by unfold wsV; exact List.mem_append_right _ h)
  have hc : Cond.codeWith y bytes maxL ret hh ∈ ws := by rw [hw]; exact List.mem_cons_self
  refine ⟨⟨hrc, hrs, hR.1, hR.2, pay_in ht hG, hc⟩, ht _ (hG _ hc).1, ok _ (by simp [wsV]), ⟨hd.1, hd.2.1⟩, fun sig h => ?_, ok _ (by simp [wsV]), ok _ (by simp [wsV]), ok _ (by simp [wsV])⟩
  have h2 := hd.2.2
  rw [h] at h2
  exact (Option.some.inj h2).symm
theorem vx_runVW {y : MethodName} {bytes cc : ByteArray} {maxL nL mc ms n index : Nat} {ret : Option FieldType} {hh : List (Nat × Nat × Nat × Nat)} {ws : List Cond} {rm : Room} {Pc : Array Value → State → Prop} {Qc : Array Value → State → Outcome → State → Prop} {free : Addr → Prop} {Ts : List Cond} {own C : String} {b : Addr} {As rest : List Value} {g : JFrame}
    (S : CallFix p m c cc nL s args Ts own) (hM : Met l y ws rm Pc Qc mc ms free) (cw : vx_CVW R s args own C index y bytes maxL ret hh ws rm mc ms n) (hp : PreV s H C b Pc As)
    (hg : g.method = m) (hn : As.length = n) (hsize : g.locals.size = nL) (hstack : g.stack = As.reverse ++ .ref b :: rest) (hW : 2 * g.monitorRoom + (rest.map fun v => v.category).sum ≤ 8) (hdg : decode cc g.pc = .ok (.invokevirtual index, 3)) (hf : cells + mc ≤ R.cells ∧ slots + ms ≤ R.slots) :
    va_Run p l e R s m args below meth c H locs cells slots mc ms g rest (Qc (Value.ref b :: As).toArray) free := by
  obtain ⟨⟨hrc, hrs, hfr, hlo, hws, hcw⟩, hcode, hini, hy, hlen, hl, hin, hse⟩ := cw
  have hK : Back l R p e below s args y 3 8 (PreOf R mc ms Pc) (PostOf Qc mc ms free) := va_backW (hh := hh) (bytes := bytes) (maxL := maxL) (ret := ret) hM hp.1 hrc hrs hfr hlo hws hcw (fun a' U hW => word_at hW (Or.inl (by first | rfl | simp [Cond.onTables, Cond.keeps, Cond.steady])) hini)
  obtain ⟨hx, hb, hml, ho, -⟩ := S
  obtain ⟨-, ⟨cellB, hcB, hoB, hclB⟩, hPc⟩ := hp
  intro T hT X
  obtain ⟨v, vm₁, ⟨U', l2, c2, s2⟩, hW₁, X', ⟨g', mk, t, L, e1, e2, hq, h1, hL, h2, h3⟩, st⟩ := vx_callVW X hx (C := C) (hh := hh) (bytes := bytes) (maxL := maxL) (ret := ret) ho hl hin hse hcode hy hK (by rw [hT]; exact hcB) hoB hclB hg (hsize.trans hml.symm) (argsL := As) (rest := rest) (fun sig h => hn.trans (hlen sig h)) hstack hW (by rw [hb]; exact hdg)
    (fun vm₁ hW₁ => ⟨hf.1, hf.2, hPc (T.setVm vm₁) hT hW₁⟩)
  dsimp only [Pt.U, Pt.locs, Pt.cells, Pt.slots] at X' e1 e2 h1 h2 h3 st
  subst h1; subst h2; subst h3
  exact ⟨v, (T.setVm vm₁).calling g' mk (Value.ref b :: As).toArray, t, U', L, hT, X', hL, e1, e2, hq, st⟩
section
variable {y : MethodName} {bytes cc : ByteArray} {maxL nL mc ms n index : Nat} {ret : Option FieldType} {ws : List Cond} {rm : Room} {Pc : Array Value → State → Prop} {Qc : Array Value → State → Outcome → State → Prop} {XC : String → State → State → Prop} {free : Addr → Prop} {Ts : List Cond} {own C : String} {b : Addr} {As rest : List Value} {g : JFrame}
theorem vx_runVX {hh : List (Nat × Nat × Nat × Nat)} (S : CallFix p m c cc nL s args Ts own) (hM : vx_Met l y ws rm Pc Qc XC mc ms free) (cw : vx_CVW R s args own C index y bytes maxL ret hh ws rm mc ms n) (hp : PreV s H C b Pc As)
    (hg : g.method = m) (hn : As.length = n) (hsize : g.locals.size = nL) (hstack : g.stack = As.reverse ++ .ref b :: rest) (hW : 2 * g.monitorRoom + (rest.map fun v => v.category).sum ≤ 8) (hdg : decode cc g.pc = .ok (.invokevirtual index, 3)) (hf : cells + mc ≤ R.cells ∧ slots + ms ≤ R.slots) :
    vx_Run p l e R s m args below meth c H locs cells slots mc ms g rest (Qc (Value.ref b :: As).toArray) XC free := by
  obtain ⟨⟨hrc, hrs, hfr, hlo, hws, hcw⟩, hcode, hini, hy, hlen, hl, hin, hse⟩ := cw
  have hK : vx_Back l R p e below s args y 3 8 (PreOf R mc ms Pc) (PostOf Qc mc ms free) (vx_Post XC mc ms free) := vx_backW (hh := hh) (bytes := bytes) (maxL := maxL) (ret := ret) hM hp.1 hrc hrs hfr hlo hws hcw (fun a' U hW => word_at hW (Or.inl (by first | rfl | simp [Cond.onTables, Cond.keeps, Cond.steady])) hini)
  obtain ⟨hx, hb, hml, ho, -⟩ := S
  obtain ⟨-, ⟨cellB, hcB, hoB, hclB⟩, hPc⟩ := hp
  intro T hT X
  rcases vx_callVX X hx (C := C) (hh := hh) (bytes := bytes) (maxL := maxL) (ret := ret) ho hl hin hse hcode hy hK (by rw [hT]; exact hcB) hoB hclB hg (hsize.trans hml.symm) (argsL := As) (rest := rest) (fun sig h => hn.trans (hlen sig h)) hstack hW (by rw [hb]; exact hdg)
    (fun vm₁ hW₁ => ⟨hf.1, hf.2, hPc (T.setVm vm₁) hT hW₁⟩) with ⟨v, vm₁, ⟨U', l2, c2, s2⟩, hW₁, X', ⟨g', mk, t, L, e1, e2, hq, h1, hL, h2, h3⟩, st⟩ | ⟨q, vm₁, ⟨U', l2, c2, s2⟩, hW₁, X', ⟨g', mk, t, L, E, ce, e1, e2, hq, hce, hcv, hcl, h1, hL, h2, h3⟩, st⟩
  · dsimp only [Pt.U, Pt.locs, Pt.cells, Pt.slots] at X' e1 e2 h1 h2 h3 st
    subst h1; subst h2; subst h3
    exact Or.inl ⟨v, (T.setVm vm₁).calling g' mk (Value.ref b :: As).toArray, t, U', L, hT, X', hL, e1, e2, hq, st⟩
  · dsimp only [Pt.U, Pt.locs, Pt.cells, Pt.slots] at X' e1 e2 h1 h2 h3 st hcl
    subst h1; subst h2; subst h3
    exact Or.inr ⟨q, (T.setVm vm₁).calling g' mk (Value.ref b :: As).toArray, t, U', L, E, ce, hT, X', hL, e1, e2, hq, hce, hcv, vx_cls hW₁ hcl, st⟩
theorem vx_runSX {hh : List (Nat × Nat × Nat × Nat)} (S : CallFix p m c cc nL s args Ts own) (hM : vx_Met l y ws rm Pc Qc XC mc ms free) (cw : vx_CSW R s args own index y bytes maxL ret hh ws rm mc ms n) (hp : PreS s H Pc As)
    (hg : g.method = m) (hn : As.length = n) (hsize : g.locals.size = nL) (hstack : g.stack = As.reverse ++ rest) (hW : 2 * g.monitorRoom + (rest.map fun v => v.category).sum ≤ 8) (hdg : decode cc g.pc = .ok (.invokestatic index, 3)) (hf : cells + mc ≤ R.cells ∧ slots + ms ≤ R.slots) :
    vx_Run p l e R s m args below meth c H locs cells slots mc ms g rest (Qc As.toArray) XC free := by
  obtain ⟨⟨hrc, hrs, hfr, hlo, hws, hcw⟩, hcode, hini, hy, hlen, hl, hstt⟩ := cw
  have hK : vx_Back l R p e below s args y 3 8 (PreOf R mc ms Pc) (PostOf Qc mc ms free) (vx_Post XC mc ms free) := vx_backW (hh := hh) (bytes := bytes) (maxL := maxL) (ret := ret) hM hp.1 hrc hrs hfr hlo hws hcw (fun a' U hW => word_at hW (Or.inl (by first | rfl | simp [Cond.onTables, Cond.keeps, Cond.steady])) hini)
  obtain ⟨hx, hb, hml, ho, -⟩ := S
  intro T hT X
  rcases vx_callSX X hx (hh := hh) (bytes := bytes) (maxL := maxL) (ret := ret) ho hl hstt hini hcode hy hK hg (hsize.trans hml.symm) (argsL := As) (rest := rest) (fun sig h => hn.trans (hlen sig h)) hstack hW (by rw [hb]; exact hdg)
    (fun vm₁ hW₁ => ⟨hf.1, hf.2, hp.2 (T.setVm vm₁) hT hW₁⟩) with ⟨v, vm₁, ⟨U', l2, c2, s2⟩, hW₁, X', ⟨g', mk, t, L, e1, e2, hq, h1, hL, h2, h3⟩, st⟩ | ⟨q, vm₁, ⟨U', l2, c2, s2⟩, hW₁, X', ⟨g', mk, t, L, E, ce, e1, e2, hq, hce, hcv, hcl, h1, hL, h2, h3⟩, st⟩
  · dsimp only [Pt.U, Pt.locs, Pt.cells, Pt.slots] at X' e1 e2 h1 h2 h3 st
    subst h1; subst h2; subst h3
    exact Or.inl ⟨v, (T.setVm vm₁).calling g' mk As.toArray, t, U', L, hT, X', hL, e1, e2, hq, st⟩
  · dsimp only [Pt.U, Pt.locs, Pt.cells, Pt.slots] at X' e1 e2 h1 h2 h3 st hcl
    subst h1; subst h2; subst h3
    exact Or.inr ⟨q, (T.setVm vm₁).calling g' mk As.toArray, t, U', L, E, ce, hT, X', hL, e1, e2, hq, hce, hcv, vx_cls hW₁ hcl, st⟩
end
end VXH
theorem vx_ofWH {l : Launch} {y : MethodName} {ws ws' : List Cond} {rm : Room} {Pc : Array Value → State → Prop} {Qc : Array Value → State → Outcome → State → Prop} {XC : String → State → State → Prop} {mc ms : Nat} {free : Addr → Prop} {cc : ByteArray} {maxL : Nat} {ret : Option FieldType} {hh : List (Nat × Nat × Nat × Nat)}
    (hy : plainName y.cls = true) (hw : ws = Cond.codeWith y cc maxL ret hh :: ws')
    (body : ∀ p e s m args below meth c s₁, BodyLoose p l y (headSpec ws rm) cc maxL ret e s m args below meth c s₁ → c.maxLocals = maxL → Pc args s →
      W p l e (headSpec ws rm).room s m args below meth c s.heap [] 0 0 (vx_MQ below Qc XC args s mc ms free) (entryFrame m args maxL)) : vx_Met l y ws rm Pc Qc XC mc ms free := by
  refine MetFree.of_bodyS (code := cc) (maxLocals := maxL) (ret := ret) hy ?_ ?_
  · intro args s m h hn
    obtain ⟨m9, meth, c, hn9, h1, h2, h3, h4, -, h5, h6, -⟩ := Cond.codeWith_spec (atoms_spec (ws := ws) h _ (by rw [hw]; exact List.mem_cons_self))
    cases hn.symm.trans hn9
    exact ⟨meth, c, h1, h2, h3, h4, h5, h6⟩
  · intro p e s m args below meth c s₁ B hml hP _
    have hh0 : s₁.heap = s.heap := by rw [B.state]; rfl
    obtain ⟨t, a1, o, b1, b2, b3⟩ := body p e s m args below meth c s₁ B hml hP s₁ hh0 (Stand.of_body B)
    exact ⟨t, o, a1, b1, b2, b3⟩
/-! ===== END ===== -/

/-! ===== BEGIN what the machine throws by itself, no traces kept ===== -/
section VXM
set_option maxHeartbeats 1000000 in
/-- the machine throws cls with the message text, no traces kept: from its note over the frame g to 'throwing' over the same frame (follows the proofs of Stand.vmThrowsMessage, Shelf/KitTracedVmS.lean, and Stand.throwsMessageColdBareV, StandMessageColdV.lean, without the step out of the frame) -/
theorem vx_vmAt {p : Program} {l : Launch} {e : Env} {R : Room} {s : State} {m₀ : MethodId} {args : Array Value} {below : List Frame} {meth : Method} {c : Code} {W : State} {locs : List Loc} {cells slots : Nat}
    (X : Stand p l e R s m₀ args below meth c W locs cells slots) (hexec : p.tables.exec = Jvm.exec) (htr : e.platform.stackTraces = false) {cls : String} {names : List String} {text : String}
    (hcls : Bundle.fit cls = true) (hnames : ∀ n ∈ names, Bundle.fit n = true) (hsoe : (cls == "java/lang/StackOverflowError") = false) (hoom : (cls == "java/lang/OutOfMemoryError") = false)
    (h : ∀ a ∈ Bundle.messageArmAtoms cls names, a.before args s = true)
    (hlocs : ∀ x ∈ locs, ∀ cell, s.heap[x.base]? = some cell → cell.vm.isStatics = false)
    (htext : (text == notModelled) = false) (hlimit : ¬ (stringBytes (stringToUtf16 text)).size > e.platform.arrayLengthLimit) (hheap : ¬ (stringBytes (stringToUtf16 text)).size * componentBytes .byte > e.platform.maxHeapBytes)
    {g : JFrame} (hg : g.method = m₀) (hsize : g.locals.size = c.maxLocals)
    (hRframes : names.length + 4 < R.frames) (hRlocals : 2 * g.monitorRoom + (g.stack.map fun v => v.category).sum + 10240 ≤ R.locals) (hshort : 13 * names.length + 55 ≤ 10240)
    (hRcells : cells + 3 ≤ R.cells) (hRslots : slots + ((stringBytes (stringToUtf16 text)).size + 4 + 6) ≤ R.slots) (hlocks : meth.locks = false) :
    ∃ (S : State) (q : Addr) (ce : Cell), (∀ target, Steps p.tables e below ((S.setTop g).pushFrame (.throwing q)) target → Steps p.tables e below ((W.setTop g).pushFrame (.throwNew cls (some text) none)) target) ∧
      Stand p l e R s m₀ args below meth c S locs (cells + 3) (slots + ((stringBytes (stringToUtf16 text)).size + 4 + 6)) ∧ S.heap[q]? = some ce ∧ s.vm.findClass cls = some ce.cls ∧ ce.vm = .none := by
  have howns : e.platform.frameOwnsMonitors = true := by rw [X.admits.platform]
  have hfin : e.platform.finalization = false := by rw [X.admits.platform]
  have hpl : e.platform.magicAccessors = ({} : Platform).magicAccessors := by rw [X.admits.platform]
  have a : ∀ x, x ∈ Bundle.messageArmAtoms cls names → x.holds args s none s [] = true := fun x hx => h x hx
  obtain ⟨T, Z0, L, -, Y⟩ := ThrowableC.of_atoms (args := args) howns hfin hpl (fun x hx => h x (by simp [Bundle.messageArmAtoms, hx]))
  obtain ⟨Z, M, LZ, LM, hnZ⟩ := Init0T.ofS_atoms (args := args) hpl L Y (fun x hx => h x (by simp [Bundle.messageArmAtoms, hx]))
  obtain ⟨P1, Ps, hlen, L1, hL, hP1m, hlink1, hlink⟩ := Bundle.chainS (args := args) hpl hnZ names cls hcls hnames (fun x hx => h x (by simp [Bundle.messageArmAtoms, hx]))
  obtain ⟨Zs, LZs, hn4, hfitv, hfitc⟩ := StringT.of_atoms (args := args) (fun x hx => h x (by simp [Bundle.messageArmAtoms, hx]))
  have hfound : s.vm.findClass cls = some P1.m.cls := findClass_of_methodNamed hP1m
  obtain ⟨c1, kX, hc1, hk, hord, -, -, hn6⟩ := Cond.instantiable_spec (a (.instantiable cls 6) (by simp [Bundle.messageArmAtoms]))
  cases Option.some.inj (hc1.symm.trans hfound)
  have hinit := Cond.initialized_spec hfound hk (a (.initialized cls) (by simp [Bundle.messageArmAtoms]))
  have hctor : kX.findMethod "<init>" "(Ljava/lang/String;)V" = some P1.m.idx := findMethod_of_methodNamed hP1m hk
  have hsel0 : selectMethod e.platform s.vm P1.m.cls T.fill0 = .method T.fill0 := by
    obtain ⟨c2, r2, m2, q1, q2, q3, q4, -⟩ := Cond.selects_spec (a (.selects cls Bundle.tFill0 Bundle.tFill0) (by simp [Bundle.messageArmAtoms]))
    cases Option.some.inj (q1.symm.trans hfound)
    cases Option.some.inj (q2.symm.trans (State.methodFound?_of_named Y.fill0 (by decide)))
    cases Option.some.inj (q3.symm.trans Y.fill0)
    rw [Launch.admits_selectMethod X.admits]; exact q4
  have hselF : selectMethod e.platform s.vm P1.m.cls T.fill = .method T.fill := by
    obtain ⟨c2, r2, m2, q1, q2, q3, q4, -⟩ := Cond.selects_spec (a (.selects cls Bundle.tFill Bundle.tFill) (by simp [Bundle.messageArmAtoms]))
    cases Option.some.inj (q1.symm.trans hfound)
    cases Option.some.inj (q2.symm.trans (State.methodFound?_of_named Y.fill (by decide)))
    cases Option.some.inj (q3.symm.trans Y.fill)
    rw [Launch.admits_selectMethod X.admits]; exact q4
  obtain ⟨cellS0, hcS0, hiss⟩ := Y.statics
  obtain ⟨u0, hu0⟩ := Cond.staticRefV Y.unassigned L.unassignedStatic L.statics hcS0 hiss (a (.isRef (.static Bundle.tN "UNASSIGNED_STACK" Bundle.steD)) (by simp [Bundle.messageArmAtoms]))
  obtain ⟨sen, hsen⟩ := Cond.staticRefV Y.sentinel L.sentinelStatic L.statics hcS0 hiss (a (.isRef (.static Bundle.tN "SUPPRESSED_SENTINEL" Bundle.listD)) (by simp [Bundle.messageArmAtoms]))
  obtain ⟨ci198, i198, fB, hk198, hg198, ha198, hsB, -, hnB, htB, hffB⟩ := Cond.ownField (t := .object "java/lang/Object") Y.found L.cls (by decide +kernel) (a (.fieldLink Bundle.tN 198 Bundle.tN "backtrace" "Ljava/lang/Object;") (by simp [Bundle.messageArmAtoms])) (a (.lays Bundle.tN Bundle.tN "backtrace" "Ljava/lang/Object;") (by simp [Bundle.messageArmAtoms])) e.platform hpl
  obtain ⟨cellS, hcS', heS, -, hkeep⟩ := X.same.2.2.2.2.2 T.aS cellS0 hcS0
  have hcellS : W.heap[T.aS]? = some cellS := hcS'
  have hout' : ∀ i, (⟨T.aS, i⟩ : Loc) ∉ locs := fun i hmem => by
    have := hlocs _ hmem cellS0 hcS0
    rw [hiss] at this; cases this
  have hknownS : cellS.vm ≠ .unknown := by
    rw [heS]; intro hu
    rw [show cellS0.vm = .unknown from hu] at hiss
    cases hiss
  have hvU : cellS.slots[T.fUnassigned.slot]? = some u0.v := by rw [hkeep _ (hout' _)]; exact hu0
  have hvSen : cellS.slots[T.fSentinel.slot]? = some sen.v := by rw [hkeep _ (hout' _)]; exact hsen
  obtain ⟨iM, hffM⟩ := Y.msg
  obtain ⟨tyC, dC, hdC, hdnC⟩ := Cond.laysAt hfound hk Y.cause (a (.lays cls Bundle.tN "cause" "Ljava/lang/Throwable;") (by simp [Bundle.messageArmAtoms]))
  obtain ⟨tyS, dS, hdS, hdnS⟩ := Cond.laysAt hfound hk Y.stack (a (.lays cls Bundle.tN "stackTrace" Bundle.steD) (by simp [Bundle.messageArmAtoms]))
  obtain ⟨tyP, dP, hdP, hdnP⟩ := Cond.laysAt hfound hk Y.supp (a (.lays cls Bundle.tN "suppressedExceptions" Bundle.listD) (by simp [Bundle.messageArmAtoms]))
  obtain ⟨tyM, dM, hdM, hdnM⟩ := Cond.laysAt hfound hk hffM (a (.lays cls Bundle.tN "detailMessage" "Ljava/lang/String;") (by simp [Bundle.messageArmAtoms]))
  obtain ⟨tyB, dB, hdB, hdnB⟩ := Cond.laysAt hfound hk hffB (a (.lays cls Bundle.tN "backtrace" "Ljava/lang/Object;") (by simp [Bundle.messageArmAtoms]))
  have bC := Cond.laysApart hdB hdC hdnB hdnC (by rw [hnB, Y.causeName]; decide)
  have bS := Cond.laysApart hdB hdS hdnB hdnS (by rw [hnB, Y.stackName]; decide)
  have bP := Cond.laysApart hdB hdP hdnB hdnP (by rw [hnB, Y.suppName]; decide)
  have hbk : ((preparedCellV T.toThrowableT (freshCell P1.m.cls kX) (W.heap.size + 2) u0 sen).withEntry W.cur).slots[fB.slot]? = some .null := by
    have := fresh_default (c := P1.m.cls) tyB
    rw [htB] at this
    simpa [preparedCellV, Cell.setSlot, Cell.withEntry, Array.getElem?_setIfInBounds, bC, bS, bP, bC.symm, bS.symm, bP.symm, defaultValue] using this
  have tkC := Takes.of_laid (v := .ref (W.heap.size + 2)) hk hord tyC (by rw [Y.causeType]; rfl)
  have tkS := Takes.of_laid (v := u0.v) hk hord tyS (by rw [Y.stackType]; exact fits_refV_array _ u0)
  have tkP := Takes.of_laid (v := sen.v) hk hord tyP (by rw [Y.suppType]; exact fits_refV_object _ sen)
  have tkM := Takes.of_laid (v := .ref (W.heap.size + 1)) hk hord tyM (by rw [Y.msgType]; rfl)
  have hskip : SkipFacts T e.platform s (fun u => u) u0 ((preparedCellV T.toThrowableT (freshCell P1.m.cls kX) (W.heap.size + 2) u0 sen).withEntry W.cur) := ⟨{ ci198 := ci198, i198 := i198, fBack := fB }, ⟨hk198, hg198, ha198, hsB⟩, hbk, fun _ _ => rfl⟩
  have h0 : At W g.method c below := by rw [hg]; exact X.here
  obtain ⟨hbeyond, hfreeW⟩ := X.vmMayThrow hsize (.throwNew cls (some text) none) (fun f hf => by cases hf) rfl hRlocals
  have hfr' : W.frames.length + Ps.length + 4 < (e.platform.stackLimits W.me).1 := by have := X.framesAbove hRframes; omega
  have hwd' : (stackUse (.java g :: W.frames.tail)).2 + 13 * Ps.length + 55 ≤ (e.platform.stackLimits W.me).2 := by have := X.stackAbove hsize (K := 13 * Ps.length + 55) (by omega); omega
  have hslots : W.slotsUsed + (stringBytes (stringToUtf16 text)).size + Zs.kS.instanceTypes.size + kX.instanceTypes.size ≤ e.platform.maxSlots := by
    have := X.slotsAbove hRslots
    rw [hn4, hn6]
    omega
  obtain ⟨vm', hW', st⟩ := Steps.vmThrowsMessageColdByV p (s₀ := s) (S := W) (g := g) h0 hexec T L Z LZ M LM X.warmed (t := W.cur) rfl Zs LZs P1 L1 Ps hL hlink1 hlink hsoe hoom hfound hk hinit hord hctor
    (Launch.admits_hotImplicitExceptions X.admits) hbeyond hfreeW htext hlimit hheap (X.cellsAbove hRcells) hslots (hfitv _) (hfitc _)
    (Nn := fun u => u) heapOnly_id (fun _ _ => rfl) (fun _ => rfl) (fun u x y => setCell_twice _ _ _ _) (fun _ => Nat.le_refl _) (cN := ((preparedCellV T.toThrowableT (freshCell P1.m.cls kX) (W.heap.size + 2) u0 sen).withEntry W.cur))
    hsel0 hcellS hknownS hvU tkS (fun _ hu => hu) (fun _ hu => hu) rfl rfl rfl (by simp [preparedCellV, Cell.setSlot, Cell.withEntry]) hskip (fun _ _ hA hW _ hroom _ hrest => L.nativeOff p htr hA hW hroom hrest) hselF hvSen tkC tkP tkM Y.objLocals rfl hfr' hwd'
  rw [plainBareV_eq T.toThrowableT (W.heap.size + 2) u0 sen (.ref (W.heap.size + 1)) W.cur rfl rfl] at st
  obtain ⟨-, -, w3, w4, -, -, -⟩ := withThrown_facts e.platform W Zs text P1.m.cls kX
  have X3 := ((X.pushed (bytesOf Zs.cB (stringToUtf16 text))).pushed (stringAt Zs.cS Zs.kS Zs.fv Zs.fc (stringToUtf16 text) W.heap.size)).pushed (freshCell P1.m.cls kX)
  rw [← withString_eq] at X3
  have X4 := X3.noted hW'
  have ha : (W.heap.size + 2) < ((withThrown W Zs text P1.m.cls kX).setVm vm').heap.size := by show _ < (withThrown W Zs text P1.m.cls kX).heap.size; rw [w3]; omega
  have hcell : ((withThrown W Zs text P1.m.cls kX).setVm vm').heap[(W.heap.size + 2)]? = some (freshCell P1.m.cls kX) := w4
  have X5 := ((((X4.stored hcell T.fCause.slot (.ref (W.heap.size + 2))).storedAgain ha T.fStack.slot u0.v).storedAgain ha T.fSupp.slot sen.v).storedAgain ha T.fStack.slot u0.v).storedAgain ha T.fMsg.slot (.ref (W.heap.size + 1))
  obtain ⟨g₁, hfrM⟩ := X5.frames_eq
  have hU : ((((withThrown W Zs text P1.m.cls kX).setVm vm').setCell (W.heap.size + 2) (plainBareV T.toThrowableT (freshCell P1.m.cls kX) (W.heap.size + 2) u0 sen (.ref (W.heap.size + 1)))).setTop g).pushFrame (.throwing (W.heap.size + 2)) = (((withThrown W Zs text P1.m.cls kX).setVm vm').setCell (W.heap.size + 2) (plainBareV T.toThrowableT (freshCell P1.m.cls kX) (W.heap.size + 2) u0 sen (.ref (W.heap.size + 1)))).setFrames (.throwing (W.heap.size + 2) :: .java g :: below) := by
    rw [State.pushFrame, State.frames_setTop _ hfrM, State.setTop_of_frames _ hfrM, State.setFrames_setFrames]
  have b1 : (bytesOf Zs.cB (stringToUtf16 text)).slots.size = (stringBytes (stringToUtf16 text)).size := by
    rw [(Cell.writeAll_facts _ _).2.2]; simp [bytes0]
  have b2 : (stringAt Zs.cS Zs.kS Zs.fv Zs.fc (stringToUtf16 text) W.heap.size).slots.size = 4 := by simp [string0, Cell.setSlot, hn4]
  have b3 : (freshCell P1.m.cls kX).slots.size = 6 := by simp [hn6]
  rw [b1, b2, b3] at X5
  have e9 : slots + (stringBytes (stringToUtf16 text)).size + 4 + 6 = slots + ((stringBytes (stringToUtf16 text)).size + 4 + 6) := by omega
  rw [e9] at X5
  simp only [List.append_assoc, List.cons_append, List.nil_append] at X5
  refine ⟨((withThrown W Zs text P1.m.cls kX).setVm vm').setCell (W.heap.size + 2) (plainBareV T.toThrowableT (freshCell P1.m.cls kX) (W.heap.size + 2) u0 sen (.ref (W.heap.size + 1))), W.heap.size + 2, _, fun target ht => st _ (by rw [X.tail, ← hU]; exact ht),
    X5.forget (fun y hy => ?_), heapAt_setCell_self _ ha, hfound, rfl⟩
  simp only [List.mem_cons, List.not_mem_nil, or_false] at hy
  have hge : s.heap.size ≤ W.heap.size := X.same.2.1
  rcases hy with rfl | rfl | rfl | rfl | rfl <;> exact Nat.le_trans hge (Nat.le_add_right _ 2)
set_option maxHeartbeats 1000000 in
/-- the machine throws NullPointerException, no traces kept: from its note over the frame g to 'throwing' over the same frame (follows the proof of Stand.vmThrowsNpe, Shelf42/KT2.lean; throwsNpeColdBareVAt, Shelf42/NT91.lean, called) -/
theorem vx_npeAt {p : Program} {l : Launch} {e : Env} {R : Room} {s : State} {m₀ : MethodId} {args : Array Value} {below : List Frame} {meth : Method} {c : Code} {W : State} {locs : List Loc} {cells slots : Nat}
    (X : Stand p l e R s m₀ args below meth c W locs cells slots) (hexec : p.tables.exec = Jvm.exec) (htr : e.platform.stackTraces = false) {n : Nat}
    (h : ∀ a ∈ Bundle.npeArmAtoms n, a.before args s = true)
    (hlocs : ∀ x ∈ locs, ∀ cell, s.heap[x.base]? = some cell → cell.vm.isStatics = false)
    {g : JFrame} (hg : g.method = m₀) (hsize : g.locals.size = c.maxLocals)
    (hRframes : 7 < R.frames) (hRlocals : 2 * g.monitorRoom + (g.stack.map fun v => v.category).sum + 10240 ≤ R.locals)
    (hRcells : cells + 1 ≤ R.cells) (hRslots : slots + n ≤ R.slots) (hlocks : meth.locks = false) :
    ∃ (S : State) (q : Addr) (ce : Cell), (∀ target, Steps p.tables e below ((S.setTop g).pushFrame (.throwing q)) target → Steps p.tables e below ((W.setTop g).pushFrame (.throwNew "java/lang/NullPointerException" none none)) target) ∧
      Stand p l e R s m₀ args below meth c S locs (cells + 1) (slots + n) ∧ S.heap[q]? = some ce ∧ s.vm.findClass "java/lang/NullPointerException" = some ce.cls ∧ ce.vm = .none := by
  have howns : e.platform.frameOwnsMonitors = true := by rw [X.admits.platform]
  have hfin : e.platform.finalization = false := by rw [X.admits.platform]
  have hpl : e.platform.magicAccessors = ({} : Platform).magicAccessors := by rw [X.admits.platform]
  have hpl2 : e.platform.arrayCloneIsPublic = true := by rw [X.admits.platform]
  have a' : ∀ x, x ∈ Bundle.npeArmAtoms n → x.holds args s none s [] = true := fun x hx => h x hx
  obtain ⟨T, Z, L, LZ, Y⟩ := ThrowableC.of_atoms (args := args) howns hfin hpl (fun x hx => h x (by simp [Bundle.npeArmAtoms, hx]))
  obtain ⟨N, LN, hcN, hnNF, hordN, hffS⟩ := NpeC.of_atoms (args := args) hpl hpl2 L Y (fun x hx => h x (by simp [Bundle.npeArmAtoms, hx]))
  obtain ⟨P1, L1, hP1m, hP1s⟩ := PassC.of_atoms (args := args) (s := s) hpl (X := Bundle.nN) (Y := Bundle.rN) (by decide) (by decide) LibCode.NullPointerException.Init0.at_0 LibCode.NullPointerException.Init0.at_1 LibCode.NullPointerException.Init0.at_4 (fun x hx => h x (by simp [Bundle.npeArmAtoms, hx]))
  obtain ⟨PR, LR, hPRm, hPRs⟩ := PassC.of_atoms (args := args) (s := s) hpl (X := Bundle.rN) (Y := Bundle.eN) (by decide) (by decide) LibCode.RuntimeException.Init0.at_0 LibCode.RuntimeException.Init0.at_1 LibCode.RuntimeException.Init0.at_4 (fun x hx => h x (by simp [Bundle.npeArmAtoms, hx]))
  obtain ⟨PE, LEx, hPEm, hPEs⟩ := PassC.of_atoms (args := args) (s := s) hpl (X := Bundle.eN) (Y := Bundle.tN) (by decide) (by decide) LibCode.Exception.Init0.at_0 LibCode.Exception.Init0.at_1 LibCode.Exception.Init0.at_4 (fun x hx => h x (by simp [Bundle.npeArmAtoms, hx]))
  have hfound : s.vm.findClass Bundle.nN = some P1.m.cls := findClass_of_methodNamed hP1m
  have ecls : N.cN = P1.m.cls := Option.some.inj (hcN.symm.trans hfound)
  have hk : s.vm.classes[P1.m.cls]? = some N.kN := by rw [← ecls]; exact LN.cls
  have hinit := Cond.initialized_spec hfound hk (a' (.initialized Bundle.nN) (by simp [Bundle.npeArmAtoms]))
  have hctor : N.kN.findMethod "<init>" "()V" = some P1.m.idx := findMethod_of_methodNamed hP1m hk
  obtain ⟨c1, k1, hc1, hk1, -, -, -, hn⟩ := Cond.instantiable_spec (a' (.instantiable Bundle.nN n) (by simp [Bundle.npeArmAtoms]))
  cases Option.some.inj (hc1.symm.trans hfound)
  cases Option.some.inj (hk1.symm.trans hk)
  have hfsz : (freshCell P1.m.cls N.kN).slots.size = n := by simp [hn]
  have hlink1 : P1.sup = PR.m := Option.some.inj (hP1s.symm.trans hPRm)
  have hlinkR : PR.sup = PE.m := Option.some.inj (hPRs.symm.trans hPEm)
  have hlinkE : PE.sup = Z.m T.toThrowableT := Option.some.inj (hPEs.symm.trans Y.init0)
  have hLs : ∀ P, P ∈ [PR, PE] → P.Links0 e.platform s := fun P hP => by
    simp only [List.mem_cons, List.not_mem_nil, or_false] at hP
    rcases hP with rfl | rfl
    · exact LR
    · exact LEx
  have hsel0 : selectMethod e.platform s.vm P1.m.cls T.fill0 = .method T.fill0 := by
    obtain ⟨c2, r2, m2, q1, q2, q3, q4, -⟩ := Cond.selects_spec (a' (.selects Bundle.nN Bundle.tFill0 Bundle.tFill0) (by simp [Bundle.npeArmAtoms]))
    cases Option.some.inj (q1.symm.trans hfound)
    cases Option.some.inj (q2.symm.trans (State.methodFound?_of_named Y.fill0 (by decide)))
    cases Option.some.inj (q3.symm.trans Y.fill0)
    rw [Launch.admits_selectMethod X.admits]; exact q4
  have hselF : selectMethod e.platform s.vm P1.m.cls T.fill = .method N.fill := by
    obtain ⟨c2, r2, m2, q1, q2, q3, q4, -⟩ := Cond.selects_spec (a' (.selects Bundle.nN Bundle.tFill Bundle.nFill) (by simp [Bundle.npeArmAtoms]))
    cases Option.some.inj (q1.symm.trans hfound)
    cases Option.some.inj (q2.symm.trans (State.methodFound?_of_named Y.fill (by decide)))
    cases Option.some.inj (q3.symm.trans hnNF)
    rw [Launch.admits_selectMethod X.admits]; exact q4
  obtain ⟨cellS0, hcS0, hiss⟩ := Y.statics
  obtain ⟨u0, hu0⟩ := Cond.staticRefV Y.unassigned L.unassignedStatic L.statics hcS0 hiss (a' (.isRef (.static Bundle.tN "UNASSIGNED_STACK" Bundle.steD)) (by simp [Bundle.npeArmAtoms]))
  obtain ⟨sen, hsen⟩ := Cond.staticRefV Y.sentinel L.sentinelStatic L.statics hcS0 hiss (a' (.isRef (.static Bundle.tN "SUPPRESSED_SENTINEL" Bundle.listD)) (by simp [Bundle.npeArmAtoms]))
  obtain ⟨ci198, i198, fB, hk198, hg198, ha198, hsB, -, hnB, htB, hffB⟩ := Cond.ownField (t := .object "java/lang/Object") Y.found L.cls (by decide +kernel) (a' (.fieldLink Bundle.tN 198 Bundle.tN "backtrace" Bundle.objD) (by simp [Bundle.npeArmAtoms])) (a' (.lays Bundle.tN Bundle.tN "backtrace" Bundle.objD) (by simp [Bundle.npeArmAtoms])) e.platform hpl
  obtain ⟨cellS, hcS', heS, -, hkeep⟩ := X.same.2.2.2.2.2 T.aS cellS0 hcS0
  have hcellS : W.heap[T.aS]? = some cellS := hcS'
  have hout' : ∀ i, (⟨T.aS, i⟩ : Loc) ∉ locs := fun i hmem => by
    have := hlocs _ hmem cellS0 hcS0
    rw [hiss] at this; cases this
  have hknownS : cellS.vm ≠ .unknown := by
    rw [heS]; intro hu
    rw [show cellS0.vm = .unknown from hu] at hiss
    cases hiss
  have hvU : cellS.slots[T.fUnassigned.slot]? = some u0.v := by rw [hkeep _ (hout' _)]; exact hu0
  have hvSen : cellS.slots[T.fSentinel.slot]? = some sen.v := by rw [hkeep _ (hout' _)]; exact hsen
  obtain ⟨tyC, dC, hdC, hdnC⟩ := Cond.laysAt hfound hk Y.cause (a' (.lays Bundle.nN Bundle.tN "cause" "Ljava/lang/Throwable;") (by simp [Bundle.npeArmAtoms]))
  obtain ⟨tyS, dS, hdS, hdnS⟩ := Cond.laysAt hfound hk Y.stack (a' (.lays Bundle.nN Bundle.tN "stackTrace" Bundle.steD) (by simp [Bundle.npeArmAtoms]))
  obtain ⟨tyP, dP, hdP, hdnP⟩ := Cond.laysAt hfound hk Y.supp (a' (.lays Bundle.nN Bundle.tN "suppressedExceptions" Bundle.listD) (by simp [Bundle.npeArmAtoms]))
  obtain ⟨tyX, dX, hdX, hdnX⟩ := Cond.laysAt hfound hk hffS (a' (.lays Bundle.nN Bundle.nN "extendedMessageState" "I") (by simp [Bundle.npeArmAtoms, Bundle.npeAtoms]))
  obtain ⟨hnX, htX⟩ := State.fieldFound?_type hffS (t := .int) (by decide +kernel)
  have xC := Cond.laysApart hdC hdX hdnC hdnX (by rw [hnX, Y.causeName]; decide)
  have xS := Cond.laysApart hdS hdX hdnS hdnX (by rw [hnX, Y.stackName]; decide)
  have xP := Cond.laysApart hdP hdX hdnP hdnX (by rw [hnX, Y.suppName]; decide)
  have hv0 : (freshCell P1.m.cls N.kN).slots[N.fState.slot]? = some (.int 0) := by
    have := fresh_default (c := P1.m.cls) tyX
    rw [htX] at this; exact this
  obtain ⟨tyB, dB, hdB, hdnB⟩ := Cond.laysAt hfound hk hffB (a' (.lays Bundle.nN Bundle.tN "backtrace" Bundle.objD) (by simp [Bundle.npeArmAtoms]))
  have bC := Cond.laysApart hdB hdC hdnB hdnC (by rw [hnB, Y.causeName]; decide)
  have bS := Cond.laysApart hdB hdS hdnB hdnS (by rw [hnB, Y.stackName]; decide)
  have bP := Cond.laysApart hdB hdP hdnB hdnP (by rw [hnB, Y.suppName]; decide)
  have bX := Cond.laysApart hdB hdX hdnB hdnX (by rw [hnB, hnX]; decide)
  have hbk : ((npeCell N.toNpeT (preparedCellV T.toThrowableT (freshCell P1.m.cls N.kN) W.heap.size u0 sen) W.cur).withEntry W.cur).slots[fB.slot]? = some .null := by
    have := fresh_default (c := P1.m.cls) tyB
    rw [htB] at this
    simpa [npeCell, preparedCellV, Cell.setSlot, Cell.withEntry, Array.getElem?_setIfInBounds, bC, bS, bP, bX, bC.symm, bS.symm, bP.symm, bX.symm, defaultValue] using this
  have tkC := Takes.of_laid (v := .ref W.heap.size) hk hordN tyC (by rw [Y.causeType]; rfl)
  have tkS := Takes.of_laid (v := u0.v) hk hordN tyS (by rw [Y.stackType]; exact fits_refV_array _ u0)
  have tkP := Takes.of_laid (v := sen.v) hk hordN tyP (by rw [Y.suppType]; exact fits_refV_object _ sen)
  have tkX := Takes.of_laid (v := .int 1) hk hordN tyX (by rw [htX]; rfl)
  have hskip : SkipFacts T e.platform s (fun u => u) u0 ((npeCell N.toNpeT (preparedCellV T.toThrowableT (freshCell P1.m.cls N.kN) W.heap.size u0 sen) W.cur).withEntry W.cur) := ⟨{ ci198 := ci198, i198 := i198, fBack := fB }, ⟨hk198, hg198, ha198, hsB⟩, hbk, fun _ _ => rfl⟩
  obtain ⟨vm', X3, st, -⟩ := X.throwsNpeColdBareVAt hexec hg hsize T L Z LZ N LN P1 L1 [PR, PE] hLs hlink1 ⟨hlinkR, hlinkE, trivial⟩ hfound hk hinit hordN hctor hsel0 hselF hcellS hknownS hvU hvSen
    hv0 xC xS xP tkC tkS tkP tkX Y.objLocals hskip (fun _ _ hA hW _ hroom _ hrest => L.nativeOff p htr hA hW hroom hrest) (by simpa using hRframes) hRlocals (by simp) hRcells (by rw [hn]; exact hRslots)
  have hlt : W.heap.size < ((W.pushCell (freshCell P1.m.cls N.kN)).setVm vm').heap.size := by
    show W.heap.size < (W.pushCell (freshCell P1.m.cls N.kN)).heap.size
    rw [State.heap_size_pushCell]; omega
  rw [hfsz] at X3
  obtain ⟨g₁, hfrM⟩ := X3.frames_eq
  have hU : ((((W.pushCell (freshCell P1.m.cls N.kN)).setVm vm').setCell W.heap.size (npeBareV T.toThrowableT N.toNpeT (freshCell P1.m.cls N.kN) W.heap.size u0 sen)).setTop g).pushFrame (.throwing W.heap.size) = (((W.pushCell (freshCell P1.m.cls N.kN)).setVm vm').setCell W.heap.size (npeBareV T.toThrowableT N.toNpeT (freshCell P1.m.cls N.kN) W.heap.size u0 sen)).setFrames (.throwing W.heap.size :: .java g :: below) := by
    rw [State.pushFrame, State.frames_setTop _ hfrM, State.setTop_of_frames _ hfrM, State.setFrames_setFrames]
  refine ⟨_, W.heap.size, _, fun target ht => st.trans (by rw [← hU]; exact ht), X3.forget (fun y hy => ?_), heapAt_setCell_self _ hlt, hfound, rfl⟩
  simp only [List.mem_cons, List.not_mem_nil, or_false] at hy
  have hge : s.heap.size ≤ W.heap.size := X.same.2.1
  rcases hy with rfl | rfl | rfl | rfl | rfl <;> exact hge
/-- the words of a machine's NullPointerException, but the four that speak of the heap -/
def vx_atN (n : Nat) : List Cond := (Bundle.npeArmAtoms n).filter vx_no
/-- the words of a machine's throw with a message, but the four that speak of the heap -/
def vx_atM (X : String) (names : List String) : List Cond := (Bundle.messageArmAtoms X names).filter vx_no
section
variable {p : Program} {l : Launch} {e : Env} {R : Room} {s : State} {m : MethodId} {args : Array Value} {below : List Frame} {meth : Method} {c : Code} {H : Heap} {locs : List Loc} {cells slots : Nat}
/-- a frame seen from a rebased start, seen from the first start again -/
theorem vx_back9 {T S : State} {R' : Room} {k n : Nat} (X : Stand p l e R s m args below meth c T locs cells slots) (Y : Stand p l e R' ((T.setVm s.vm).setFrames (.invoking m args :: below)) m args below meth c T [] 0 0) (Z : Stand p l e R' ((T.setVm s.vm).setFrames (.invoking m args :: below)) m args below meth c S [] k n) :
    Stand p l e R s m args below meth c S locs (cells + k) (slots + n) := by
  have hW0 : s.WarmedH ((T.setVm s.vm).setFrames (.invoking m args :: below)).vm := State.WarmedH.refl s
  refine { admits := X.admits, cas := X.cas, clock := X.clock, frames := X.frames, room := X.room, hears := X.hears, method := X.method, code := X.code, here := Z.here, tail := Z.tail, warmed := State.WarmedH.trans hW0 Z.warmed, limits := Z.limits.trans (Y.limits.symm.trans X.limits), bytes := Z.bytes.trans (Y.bytes.symm.trans X.bytes), same := ?_ }
  obtain ⟨e1, e2⟩ := Z.same
  rw [State.setFrames_setFrames] at e1
  have h2 : (T.setVm s.vm).sameButNew (S.setVm s.vm) [] k n := ⟨e1, e2⟩
  have h3 := X.same.trans h2
  rw [List.append_nil] at h3
  exact h3
/-- from the machine's note that E is thrown here with this text -/
def vx_Note (p : Program) (l : Launch) (e : Env) (R : Room) (s : State) (m : MethodId) (args : Array Value) (below : List Frame) (meth : Method) (c : Code) (H : Heap) (locs : List Loc) (cells slots : Nat) (Q : State → Prop) (g : JFrame) (E text : String) : Prop :=
  ∀ T : State, T.heap = H → Stand p l e R s m args below meth c T locs cells slots → ∃ t, Steps p.tables e below ((T.setTop g).pushFrame (.throwNew E (some text) none)) t ∧ Q t
theorem vx_vm {pc : Nat} {ls : Array Slot} {rest : List Value} {Q : State → Prop} (hexec : p.tables.exec = Jvm.exec) (hl : l.stackTraces = false) {cls text : String} {names : List String} {nb : Nat} {A : Nat → Prop}
    (hcls : Bundle.fit cls = true) (hnames : ∀ n ∈ names, Bundle.fit n = true) (hsoe : (cls == "java/lang/StackOverflowError") = false) (hoom : (cls == "java/lang/OutOfMemoryError") = false)
    (hat : ∀ w ∈ vx_atM cls names, w.before args s = true) (hgood : ∀ w ∈ vx_atM cls names, vx_ot w = true)
    (hU : vx_Zq Bundle.tN "UNASSIGNED_STACK" Bundle.steD A s s.heap) (hN : vx_Zq Bundle.tN "SUPPRESSED_SENTINEL" Bundle.listD A s s.heap) (hS : va_S A s.heap H locs) (hsize : ls.size = c.maxLocals)
    (htext : (text == notModelled) = false) (hnb : (stringBytes (stringToUtf16 text)).size ≤ nb) (hnb1 : nb ≤ 1000)
    (hRframes : names.length + 4 < R.frames) (hRlocals : (rest.map fun v => v.category).sum + 10240 ≤ R.locals) (hshort : 13 * names.length + 55 ≤ 10240) (hRcells : cells + 3 ≤ R.cells) (hRslots : slots + (nb + 10) ≤ R.slots) (hlocks : meth.locks = false)
    (k : ∀ (H1 : Heap) (q9 : Addr) (ce : Cell), H.size ≤ H1.size → (∀ q : Nat, q < H.size → H1[q]? = H[q]?) → va_S A s.heap H1 locs → H1[q9]? = some ce → ce.vm = .none → s.vm.findClass cls = some ce.cls → vx_W p l e R s m args below meth c H1 locs (cells + 3) (slots + (nb + 10)) Q (F0 m pc ls rest) q9) :
    vx_Note p l e R s m args below meth c H locs cells slots Q (F0 m pc ls rest) cls text := by
  intro T hT X
  have htr : e.platform.stackTraces = false := (show e.platform.stackTraces = l.stackTraces by rw [X.admits.platform]).trans hl
  have Y := vx_rebase X (R' := { frames := R.frames, locals := R.locals, cells := 3, slots := nb + 10 }) (Nat.le_refl _) (Nat.le_refl _) hRcells hRslots
  have hhp : ((T.setVm s.vm).setFrames (.invoking m args :: below)).heap = H := hT
  have hW0 : s.WarmedH ((T.setVm s.vm).setFrames (.invoking m args :: below)).vm := State.WarmedH.refl s
  have hat' : ∀ w ∈ vx_atM cls names, w.before args ((T.setVm s.vm).setFrames (.invoking m args :: below)) = true := fun w hw => vx_ot_at hW0 rfl (hgood w hw) (hat w hw)
  have hU' : vx_Zq Bundle.tN "UNASSIGNED_STACK" Bundle.steD A ((T.setVm s.vm).setFrames (.invoking m args :: below)) ((T.setVm s.vm).setFrames (.invoking m args :: below)).heap := by rw [hhp]; exact vx_Zq.moved hW0.alike (hU.kept hS.2.1)
  have hN' : vx_Zq Bundle.tN "SUPPRESSED_SENTINEL" Bundle.listD A ((T.setVm s.vm).setFrames (.invoking m args :: below)) ((T.setVm s.vm).setFrames (.invoking m args :: below)).heap := by rw [hhp]; exact vx_Zq.moved hW0.alike (hN.kept hS.2.1)
  obtain ⟨S, q, ce, st, Z, hce, hcl', hv⟩ := vx_vmAt Y hexec htr (cls := cls) (names := names) (text := text) hcls hnames hsoe hoom (vx_own hat' (vx_isRefq hU'.1) (vx_isRefq hN'.1) hU'.2.word hN'.2.word) (fun x hx => nomatch hx) htext
    (by rw [Launch.admits_arrayLengthLimit X.admits]; omega) (by rw [Launch.admits_maxHeapBytes X.admits]; simp only [componentBytes]; omega)
    (g := F0 m pc ls rest) rfl hsize hRframes (by show 2 * 0 + (rest.map fun v => v.category).sum + 10240 ≤ R.locals; omega) hshort (by show 0 + 3 ≤ 3; omega) (by show 0 + (_ + 4 + 6) ≤ nb + 10; omega) hlocks
  obtain ⟨f1, f2⟩ := vx_frame Z.same
  have f1' : H.size ≤ S.heap.size := by rw [← hT]; exact f1
  have f2' : ∀ q : Nat, q < H.size → S.heap[q]? = H[q]? := fun q hq => by
    rw [← hT]
    exact f2 q (by rw [← hT] at hq; exact hq) (fun z hz => nomatch hz)
  have X5 := vx_back9 X Y Z
  have X6 : Stand p l e R s m args below meth c S locs (cells + 3) (slots + (nb + 10)) := { X5 with same := X5.same.mono (by omega) (by omega) }
  obtain ⟨t, a1, b1⟩ := k S.heap q ce f1' f2' ⟨Nat.le_trans hS.1 f1', fun q h1 h2 => (f2' q (Nat.lt_of_lt_of_le h1 hS.1)).trans (hS.2.1 q h1 h2), hS.2.2⟩ hce hv hcl' S rfl X6
  exact ⟨t, st t a1, b1⟩
/-- from the machine's note that NullPointerException is thrown here -/
def vx_NoteN (p : Program) (l : Launch) (e : Env) (R : Room) (s : State) (m : MethodId) (args : Array Value) (below : List Frame) (meth : Method) (c : Code) (H : Heap) (locs : List Loc) (cells slots : Nat) (Q : State → Prop) (g : JFrame) : Prop :=
  ∀ T : State, T.heap = H → Stand p l e R s m args below meth c T locs cells slots → ∃ t, Steps p.tables e below ((T.setTop g).pushFrame (.throwNew "java/lang/NullPointerException" none none)) t ∧ Q t
theorem vx_npe {pc : Nat} {ls : Array Slot} {rest : List Value} {Q : State → Prop} (hexec : p.tables.exec = Jvm.exec) (hl : l.stackTraces = false) {nb : Nat} {A : Nat → Prop}
    (hat : ∀ w ∈ vx_atN nb, w.before args s = true) (hgood : ∀ w ∈ vx_atN nb, vx_ot w = true)
    (hU : vx_Zq Bundle.tN "UNASSIGNED_STACK" Bundle.steD A s s.heap) (hN : vx_Zq Bundle.tN "SUPPRESSED_SENTINEL" Bundle.listD A s s.heap) (hS : va_S A s.heap H locs) (hsize : ls.size = c.maxLocals)
    (hRframes : 7 < R.frames) (hRlocals : (rest.map fun v => v.category).sum + 10240 ≤ R.locals) (hRcells : cells + 1 ≤ R.cells) (hRslots : slots + nb ≤ R.slots) (hlocks : meth.locks = false)
    (k : ∀ (H1 : Heap) (q9 : Addr) (ce : Cell), H.size ≤ H1.size → (∀ q : Nat, q < H.size → H1[q]? = H[q]?) → va_S A s.heap H1 locs → H1[q9]? = some ce → ce.vm = .none → s.vm.findClass "java/lang/NullPointerException" = some ce.cls → vx_W p l e R s m args below meth c H1 locs (cells + 1) (slots + nb) Q (F0 m pc ls rest) q9) :
    vx_NoteN p l e R s m args below meth c H locs cells slots Q (F0 m pc ls rest) := by
  intro T hT X
  have htr : e.platform.stackTraces = false := (show e.platform.stackTraces = l.stackTraces by rw [X.admits.platform]).trans hl
  have Y := vx_rebase X (R' := { frames := R.frames, locals := R.locals, cells := 1, slots := nb }) (Nat.le_refl _) (Nat.le_refl _) hRcells hRslots
  have hhp : ((T.setVm s.vm).setFrames (.invoking m args :: below)).heap = H := hT
  have hW0 : s.WarmedH ((T.setVm s.vm).setFrames (.invoking m args :: below)).vm := State.WarmedH.refl s
  have hat' : ∀ w ∈ vx_atN nb, w.before args ((T.setVm s.vm).setFrames (.invoking m args :: below)) = true := fun w hw => vx_ot_at hW0 rfl (hgood w hw) (hat w hw)
  have hU' : vx_Zq Bundle.tN "UNASSIGNED_STACK" Bundle.steD A ((T.setVm s.vm).setFrames (.invoking m args :: below)) ((T.setVm s.vm).setFrames (.invoking m args :: below)).heap := by rw [hhp]; exact vx_Zq.moved hW0.alike (hU.kept hS.2.1)
  have hN' : vx_Zq Bundle.tN "SUPPRESSED_SENTINEL" Bundle.listD A ((T.setVm s.vm).setFrames (.invoking m args :: below)) ((T.setVm s.vm).setFrames (.invoking m args :: below)).heap := by rw [hhp]; exact vx_Zq.moved hW0.alike (hN.kept hS.2.1)
  obtain ⟨S, q, ce, st, Z, hce, hcl', hv⟩ := vx_npeAt Y hexec htr (n := nb) (vx_own hat' (vx_isRefq hU'.1) (vx_isRefq hN'.1) hU'.2.word hN'.2.word) (fun x hx => nomatch hx)
    (g := F0 m pc ls rest) rfl hsize hRframes (by show 2 * 0 + (rest.map fun v => v.category).sum + 10240 ≤ R.locals; omega) (by show 0 + 1 ≤ 1; omega) (by show 0 + nb ≤ nb; omega) hlocks
  obtain ⟨f1, f2⟩ := vx_frame Z.same
  have f1' : H.size ≤ S.heap.size := by rw [← hT]; exact f1
  have f2' : ∀ q : Nat, q < H.size → S.heap[q]? = H[q]? := fun q hq => by
    rw [← hT]
    exact f2 q (by rw [← hT] at hq; exact hq) (fun z hz => nomatch hz)
  have X5 := vx_back9 X Y Z
  have X6 : Stand p l e R s m args below meth c S locs (cells + 1) (slots + nb) := { X5 with same := X5.same.mono (by omega) (by omega) }
  obtain ⟨t, a1, b1⟩ := k S.heap q ce f1' f2' ⟨Nat.le_trans hS.1 f1', fun q h1 h2 => (f2' q (Nat.lt_of_lt_of_le h1 hS.1)).trans (hS.2.1 q h1 h2), hS.2.2⟩ hce hv hcl' S rfl X6
  exact ⟨t, st t a1, b1⟩
variable {Q : State → Prop} {cc : ByteArray} {pc : Nat} {ls : Array Slot} {rest : List Value}
theorem vx_idivZ (hexec : p.tables.exec = Jvm.exec) (hb : c.code = cc) {a b : Int32} (h0 : b = 0) (d : decode cc pc = .ok (.idiv, 1)) (k : vx_Note p l e R s m args below meth c H locs cells slots Q (F0 m pc ls rest) "java/lang/ArithmeticException" "/ by zero") :
    W p l e R s m args below meth c H locs cells slots Q (F0 m pc ls (.int b :: .int a :: rest)) := by
  intro T hT X
  obtain ⟨t, st, q⟩ := k T hT X
  exact ⟨t, X.idivZero hexec (g := F0 m pc ls (.int b :: .int a :: rest)) rfl (a := a) (rest := rest) (by rw [h0]) (by rw [hb]; exact d) t st, q⟩
theorem vx_iremZ (hexec : p.tables.exec = Jvm.exec) (hb : c.code = cc) {a b : Int32} (h0 : b = 0) (d : decode cc pc = .ok (.irem, 1)) (k : vx_Note p l e R s m args below meth c H locs cells slots Q (F0 m pc ls rest) "java/lang/ArithmeticException" "/ by zero") :
    W p l e R s m args below meth c H locs cells slots Q (F0 m pc ls (.int b :: .int a :: rest)) := by
  intro T hT X
  obtain ⟨t, st, q⟩ := k T hT X
  exact ⟨t, X.iremZero hexec (g := F0 m pc ls (.int b :: .int a :: rest)) rfl (a := a) (rest := rest) (by rw [h0]) (by rw [hb]; exact d) t st, q⟩
theorem vx_ldivZ (hexec : p.tables.exec = Jvm.exec) (hb : c.code = cc) {a b : Int64} (h0 : b = 0) (d : decode cc pc = .ok (.ldiv, 1)) (k : vx_Note p l e R s m args below meth c H locs cells slots Q (F0 m pc ls rest) "java/lang/ArithmeticException" "/ by zero") :
    W p l e R s m args below meth c H locs cells slots Q (F0 m pc ls (.long b :: .long a :: rest)) := by
  intro T hT X
  obtain ⟨t, st, q⟩ := k T hT X
  exact ⟨t, X.ldivZero hexec (g := F0 m pc ls (.long b :: .long a :: rest)) rfl (a := a) (rest := rest) (by rw [h0]) (by rw [hb]; exact d) t st, q⟩
theorem vx_lremZ (hexec : p.tables.exec = Jvm.exec) (hb : c.code = cc) {a b : Int64} (h0 : b = 0) (d : decode cc pc = .ok (.lrem, 1)) (k : vx_Note p l e R s m args below meth c H locs cells slots Q (F0 m pc ls rest) "java/lang/ArithmeticException" "/ by zero") :
    W p l e R s m args below meth c H locs cells slots Q (F0 m pc ls (.long b :: .long a :: rest)) := by
  intro T hT X
  obtain ⟨t, st, q⟩ := k T hT X
  exact ⟨t, X.lremZero hexec (g := F0 m pc ls (.long b :: .long a :: rest)) rfl (a := a) (rest := rest) (by rw [h0]) (by rw [hb]; exact d) t st, q⟩
theorem vx_ialdZ {D : va_G} {cl : List vw_C} {ws : va_W} {tys : List (ClassId × FieldType)} {a : Nat} (hexec : p.tables.exec = Jvm.exec) (hb : c.code = cc) (hK : va_K D cl tys s) (hP : va_P D cl ws H) (q0 t0 : Nat) {cA : ClassId} {n : Nat} {f : Nat → Int32} (ha : ws[q0]? = some (a, .inl (cA, n, .inl f))) (ht : tys[t0]? = some (cA, .int)) {i : Int32} (hout : ¬ vp_in i n) (hdg : decode cc pc = .ok (.iaload, 1))
    (k : ∀ tx : String, tx = (toString "Index " ++ toString i ++ toString " out of bounds for length " ++ toString n : String) → vx_Note p l e R s m args below meth c H locs cells slots Q (F0 m pc ls rest) "java/lang/ArrayIndexOutOfBoundsException" tx) : W p l e R s m args below meth c H locs cells slots Q (F0 m pc ls (.int i :: .ref a :: rest)) := by
  intro T hT X
  obtain ⟨t, st, q⟩ := k _ rfl T hT X
  refine ⟨t, ?_, q⟩
  have h1 := X.ialoadOut hexec (by rw [hT]; exact hP q0 _ ha) ((hK.2 t0 _ ht).1 n (fun j => .int (f j))) (j := i) (by show (i < 0 ∨ (arrV _ _ _).slots.size ≤ _); rw [arrV_size]; exact Classical.byContradiction hout) (g := F0 m pc ls (.int i :: .ref a :: rest)) rfl (rest := rest) rfl (by rw [hb]; exact hdg) t
  simp only [arrV_size] at h1
  exact h1 st
theorem vx_iastZ {D : va_G} {cl : List vw_C} {ws : va_W} {tys : List (ClassId × FieldType)} {a : Nat} (hexec : p.tables.exec = Jvm.exec) (hb : c.code = cc) (hK : va_K D cl tys s) (hP : va_P D cl ws H) (q0 t0 : Nat) {cA : ClassId} {n : Nat} {f : Nat → Int32} (ha : ws[q0]? = some (a, .inl (cA, n, .inl f))) (ht : tys[t0]? = some (cA, .int)) {i : Int32} {x : Int32} (hout : ¬ vp_in i n) (hdg : decode cc pc = .ok (.iastore, 1))
    (k : ∀ tx : String, tx = (toString "Index " ++ toString i ++ toString " out of bounds for length " ++ toString n : String) → vx_Note p l e R s m args below meth c H locs cells slots Q (F0 m pc ls rest) "java/lang/ArrayIndexOutOfBoundsException" tx) : W p l e R s m args below meth c H locs cells slots Q (F0 m pc ls (.int x :: .int i :: .ref a :: rest)) := by
  intro T hT X
  obtain ⟨t, st, q⟩ := k _ rfl T hT X
  refine ⟨t, ?_, q⟩
  have h1 := X.iastoreOut hexec (by rw [hT]; exact hP q0 _ ha) ((hK.2 t0 _ ht).1 n (fun j => .int (f j))) (j := i) (by show (i < 0 ∨ (arrV _ _ _).slots.size ≤ _); rw [arrV_size]; exact Classical.byContradiction hout) (g := F0 m pc ls (.int x :: .int i :: .ref a :: rest)) rfl (rest := rest) rfl (by rw [hb]; exact hdg) t
  simp only [arrV_size] at h1
  exact h1 st
theorem vx_baldZ {D : va_G} {cl : List vw_C} {ws : va_W} {tys : List (ClassId × FieldType)} {a : Nat} (hexec : p.tables.exec = Jvm.exec) (hb : c.code = cc) (hK : va_K D cl tys s) (hP : va_P D cl ws H) (q0 t0 : Nat) {cA : ClassId} {n : Nat} {f : Nat → Int32} (ha : ws[q0]? = some (a, .inl (cA, n, .inl f))) (ht : tys[t0]? = some (cA, .byte)) {i : Int32} (hout : ¬ vp_in i n) (hdg : decode cc pc = .ok (.baload, 1))
    (k : ∀ tx : String, tx = (toString "Index " ++ toString i ++ toString " out of bounds for length " ++ toString n : String) → vx_Note p l e R s m args below meth c H locs cells slots Q (F0 m pc ls rest) "java/lang/ArrayIndexOutOfBoundsException" tx) : W p l e R s m args below meth c H locs cells slots Q (F0 m pc ls (.int i :: .ref a :: rest)) := by
  intro T hT X
  obtain ⟨t, st, q⟩ := k _ rfl T hT X
  refine ⟨t, ?_, q⟩
  have h1 := X.baloadOut hexec (by rw [hT]; exact hP q0 _ ha) ((hK.2 t0 _ ht).1 n (fun j => .int (f j))) (j := i) (by show (i < 0 ∨ (arrV _ _ _).slots.size ≤ _); rw [arrV_size]; exact Classical.byContradiction hout) (g := F0 m pc ls (.int i :: .ref a :: rest)) rfl (rest := rest) rfl (by rw [hb]; exact hdg) t
  simp only [arrV_size] at h1
  exact h1 st
theorem vx_bastZ {D : va_G} {cl : List vw_C} {ws : va_W} {tys : List (ClassId × FieldType)} {a : Nat} (hexec : p.tables.exec = Jvm.exec) (hb : c.code = cc) (hK : va_K D cl tys s) (hP : va_P D cl ws H) (q0 t0 : Nat) {cA : ClassId} {n : Nat} {f : Nat → Int32} (ha : ws[q0]? = some (a, .inl (cA, n, .inl f))) (ht : tys[t0]? = some (cA, .byte)) {i : Int32} {x : Int32} (hout : ¬ vp_in i n) (hdg : decode cc pc = .ok (.bastore, 1))
    (k : ∀ tx : String, tx = (toString "Index " ++ toString i ++ toString " out of bounds for length " ++ toString n : String) → vx_Note p l e R s m args below meth c H locs cells slots Q (F0 m pc ls rest) "java/lang/ArrayIndexOutOfBoundsException" tx) : W p l e R s m args below meth c H locs cells slots Q (F0 m pc ls (.int x :: .int i :: .ref a :: rest)) := by
  intro T hT X
  obtain ⟨t, st, q⟩ := k _ rfl T hT X
  refine ⟨t, ?_, q⟩
  have h1 := X.bastoreOut hexec (by rw [hT]; exact hP q0 _ ha) ((hK.2 t0 _ ht).1 n (fun j => .int (f j))) (j := i) (by show (i < 0 ∨ (arrV _ _ _).slots.size ≤ _); rw [arrV_size]; exact Classical.byContradiction hout) (g := F0 m pc ls (.int x :: .int i :: .ref a :: rest)) rfl (rest := rest) rfl (by rw [hb]; exact hdg) t
  simp only [arrV_size] at h1
  exact h1 st
theorem vx_zaldZ {D : va_G} {cl : List vw_C} {ws : va_W} {tys : List (ClassId × FieldType)} {a : Nat} (hexec : p.tables.exec = Jvm.exec) (hb : c.code = cc) (hK : va_K D cl tys s) (hP : va_P D cl ws H) (q0 t0 : Nat) {cA : ClassId} {n : Nat} {f : Nat → Int32} (ha : ws[q0]? = some (a, .inl (cA, n, .inl f))) (ht : tys[t0]? = some (cA, .boolean)) {i : Int32} (hout : ¬ vp_in i n) (hdg : decode cc pc = .ok (.baload, 1))
    (k : ∀ tx : String, tx = (toString "Index " ++ toString i ++ toString " out of bounds for length " ++ toString n : String) → vx_Note p l e R s m args below meth c H locs cells slots Q (F0 m pc ls rest) "java/lang/ArrayIndexOutOfBoundsException" tx) : W p l e R s m args below meth c H locs cells slots Q (F0 m pc ls (.int i :: .ref a :: rest)) := by
  intro T hT X
  obtain ⟨t, st, q⟩ := k _ rfl T hT X
  refine ⟨t, ?_, q⟩
  have h1 := X.baloadOut hexec (by rw [hT]; exact hP q0 _ ha) ((hK.2 t0 _ ht).1 n (fun j => .int (f j))) (j := i) (by show (i < 0 ∨ (arrV _ _ _).slots.size ≤ _); rw [arrV_size]; exact Classical.byContradiction hout) (g := F0 m pc ls (.int i :: .ref a :: rest)) rfl (rest := rest) rfl (by rw [hb]; exact hdg) t
  simp only [arrV_size] at h1
  exact h1 st
theorem vx_zastZ {D : va_G} {cl : List vw_C} {ws : va_W} {tys : List (ClassId × FieldType)} {a : Nat} (hexec : p.tables.exec = Jvm.exec) (hb : c.code = cc) (hK : va_K D cl tys s) (hP : va_P D cl ws H) (q0 t0 : Nat) {cA : ClassId} {n : Nat} {f : Nat → Int32} (ha : ws[q0]? = some (a, .inl (cA, n, .inl f))) (ht : tys[t0]? = some (cA, .boolean)) {i : Int32} {x : Int32} (hout : ¬ vp_in i n) (hdg : decode cc pc = .ok (.bastore, 1))
    (k : ∀ tx : String, tx = (toString "Index " ++ toString i ++ toString " out of bounds for length " ++ toString n : String) → vx_Note p l e R s m args below meth c H locs cells slots Q (F0 m pc ls rest) "java/lang/ArrayIndexOutOfBoundsException" tx) : W p l e R s m args below meth c H locs cells slots Q (F0 m pc ls (.int x :: .int i :: .ref a :: rest)) := by
  intro T hT X
  obtain ⟨t, st, q⟩ := k _ rfl T hT X
  refine ⟨t, ?_, q⟩
  have h1 := X.bastoreOut hexec (by rw [hT]; exact hP q0 _ ha) ((hK.2 t0 _ ht).1 n (fun j => .int (f j))) (j := i) (by show (i < 0 ∨ (arrV _ _ _).slots.size ≤ _); rw [arrV_size]; exact Classical.byContradiction hout) (g := F0 m pc ls (.int x :: .int i :: .ref a :: rest)) rfl (rest := rest) rfl (by rw [hb]; exact hdg) t
  simp only [arrV_size] at h1
  exact h1 st
theorem vx_caldZ {D : va_G} {cl : List vw_C} {ws : va_W} {tys : List (ClassId × FieldType)} {a : Nat} (hexec : p.tables.exec = Jvm.exec) (hb : c.code = cc) (hK : va_K D cl tys s) (hP : va_P D cl ws H) (q0 t0 : Nat) {cA : ClassId} {n : Nat} {f : Nat → Int32} (ha : ws[q0]? = some (a, .inl (cA, n, .inl f))) (ht : tys[t0]? = some (cA, .char)) {i : Int32} (hout : ¬ vp_in i n) (hdg : decode cc pc = .ok (.caload, 1))
    (k : ∀ tx : String, tx = (toString "Index " ++ toString i ++ toString " out of bounds for length " ++ toString n : String) → vx_Note p l e R s m args below meth c H locs cells slots Q (F0 m pc ls rest) "java/lang/ArrayIndexOutOfBoundsException" tx) : W p l e R s m args below meth c H locs cells slots Q (F0 m pc ls (.int i :: .ref a :: rest)) := by
  intro T hT X
  obtain ⟨t, st, q⟩ := k _ rfl T hT X
  refine ⟨t, ?_, q⟩
  have h1 := X.caloadOut hexec (by rw [hT]; exact hP q0 _ ha) ((hK.2 t0 _ ht).1 n (fun j => .int (f j))) (j := i) (by show (i < 0 ∨ (arrV _ _ _).slots.size ≤ _); rw [arrV_size]; exact Classical.byContradiction hout) (g := F0 m pc ls (.int i :: .ref a :: rest)) rfl (rest := rest) rfl (by rw [hb]; exact hdg) t
  simp only [arrV_size] at h1
  exact h1 st
theorem vx_castZ {D : va_G} {cl : List vw_C} {ws : va_W} {tys : List (ClassId × FieldType)} {a : Nat} (hexec : p.tables.exec = Jvm.exec) (hb : c.code = cc) (hK : va_K D cl tys s) (hP : va_P D cl ws H) (q0 t0 : Nat) {cA : ClassId} {n : Nat} {f : Nat → Int32} (ha : ws[q0]? = some (a, .inl (cA, n, .inl f))) (ht : tys[t0]? = some (cA, .char)) {i : Int32} {x : Int32} (hout : ¬ vp_in i n) (hdg : decode cc pc = .ok (.castore, 1))
    (k : ∀ tx : String, tx = (toString "Index " ++ toString i ++ toString " out of bounds for length " ++ toString n : String) → vx_Note p l e R s m args below meth c H locs cells slots Q (F0 m pc ls rest) "java/lang/ArrayIndexOutOfBoundsException" tx) : W p l e R s m args below meth c H locs cells slots Q (F0 m pc ls (.int x :: .int i :: .ref a :: rest)) := by
  intro T hT X
  obtain ⟨t, st, q⟩ := k _ rfl T hT X
  refine ⟨t, ?_, q⟩
  have h1 := X.castoreOut hexec (by rw [hT]; exact hP q0 _ ha) ((hK.2 t0 _ ht).1 n (fun j => .int (f j))) (j := i) (by show (i < 0 ∨ (arrV _ _ _).slots.size ≤ _); rw [arrV_size]; exact Classical.byContradiction hout) (g := F0 m pc ls (.int x :: .int i :: .ref a :: rest)) rfl (rest := rest) rfl (by rw [hb]; exact hdg) t
  simp only [arrV_size] at h1
  exact h1 st
theorem vx_saldZ {D : va_G} {cl : List vw_C} {ws : va_W} {tys : List (ClassId × FieldType)} {a : Nat} (hexec : p.tables.exec = Jvm.exec) (hb : c.code = cc) (hK : va_K D cl tys s) (hP : va_P D cl ws H) (q0 t0 : Nat) {cA : ClassId} {n : Nat} {f : Nat → Int32} (ha : ws[q0]? = some (a, .inl (cA, n, .inl f))) (ht : tys[t0]? = some (cA, .short)) {i : Int32} (hout : ¬ vp_in i n) (hdg : decode cc pc = .ok (.saload, 1))
    (k : ∀ tx : String, tx = (toString "Index " ++ toString i ++ toString " out of bounds for length " ++ toString n : String) → vx_Note p l e R s m args below meth c H locs cells slots Q (F0 m pc ls rest) "java/lang/ArrayIndexOutOfBoundsException" tx) : W p l e R s m args below meth c H locs cells slots Q (F0 m pc ls (.int i :: .ref a :: rest)) := by
  intro T hT X
  obtain ⟨t, st, q⟩ := k _ rfl T hT X
  refine ⟨t, ?_, q⟩
  have h1 := X.saloadOut hexec (by rw [hT]; exact hP q0 _ ha) ((hK.2 t0 _ ht).1 n (fun j => .int (f j))) (j := i) (by show (i < 0 ∨ (arrV _ _ _).slots.size ≤ _); rw [arrV_size]; exact Classical.byContradiction hout) (g := F0 m pc ls (.int i :: .ref a :: rest)) rfl (rest := rest) rfl (by rw [hb]; exact hdg) t
  simp only [arrV_size] at h1
  exact h1 st
theorem vx_sastZ {D : va_G} {cl : List vw_C} {ws : va_W} {tys : List (ClassId × FieldType)} {a : Nat} (hexec : p.tables.exec = Jvm.exec) (hb : c.code = cc) (hK : va_K D cl tys s) (hP : va_P D cl ws H) (q0 t0 : Nat) {cA : ClassId} {n : Nat} {f : Nat → Int32} (ha : ws[q0]? = some (a, .inl (cA, n, .inl f))) (ht : tys[t0]? = some (cA, .short)) {i : Int32} {x : Int32} (hout : ¬ vp_in i n) (hdg : decode cc pc = .ok (.sastore, 1))
    (k : ∀ tx : String, tx = (toString "Index " ++ toString i ++ toString " out of bounds for length " ++ toString n : String) → vx_Note p l e R s m args below meth c H locs cells slots Q (F0 m pc ls rest) "java/lang/ArrayIndexOutOfBoundsException" tx) : W p l e R s m args below meth c H locs cells slots Q (F0 m pc ls (.int x :: .int i :: .ref a :: rest)) := by
  intro T hT X
  obtain ⟨t, st, q⟩ := k _ rfl T hT X
  refine ⟨t, ?_, q⟩
  have h1 := X.sastoreOut hexec (by rw [hT]; exact hP q0 _ ha) ((hK.2 t0 _ ht).1 n (fun j => .int (f j))) (j := i) (by show (i < 0 ∨ (arrV _ _ _).slots.size ≤ _); rw [arrV_size]; exact Classical.byContradiction hout) (g := F0 m pc ls (.int x :: .int i :: .ref a :: rest)) rfl (rest := rest) rfl (by rw [hb]; exact hdg) t
  simp only [arrV_size] at h1
  exact h1 st
theorem vx_laldZ {D : va_G} {cl : List vw_C} {ws : va_W} {tys : List (ClassId × FieldType)} {a : Nat} (hexec : p.tables.exec = Jvm.exec) (hb : c.code = cc) (hK : va_K D cl tys s) (hP : va_P D cl ws H) (q0 t0 : Nat) {cA : ClassId} {n : Nat} {f : Nat → Int64} (ha : ws[q0]? = some (a, .inl (cA, n, .inr (.inl f)))) (ht : tys[t0]? = some (cA, .long)) {i : Int32} (hout : ¬ vp_in i n) (hdg : decode cc pc = .ok (.laload, 1))
    (k : ∀ tx : String, tx = (toString "Index " ++ toString i ++ toString " out of bounds for length " ++ toString n : String) → vx_Note p l e R s m args below meth c H locs cells slots Q (F0 m pc ls rest) "java/lang/ArrayIndexOutOfBoundsException" tx) : W p l e R s m args below meth c H locs cells slots Q (F0 m pc ls (.int i :: .ref a :: rest)) := by
  intro T hT X
  obtain ⟨t, st, q⟩ := k _ rfl T hT X
  refine ⟨t, ?_, q⟩
  have h1 := X.laloadOut hexec (by rw [hT]; exact hP q0 _ ha) ((hK.2 t0 _ ht).1 n (fun j => .long (f j))) (j := i) (by show (i < 0 ∨ (arrV _ _ _).slots.size ≤ _); rw [arrV_size]; exact Classical.byContradiction hout) (g := F0 m pc ls (.int i :: .ref a :: rest)) rfl (rest := rest) rfl (by rw [hb]; exact hdg) t
  simp only [arrV_size] at h1
  exact h1 st
theorem vx_lastZ {D : va_G} {cl : List vw_C} {ws : va_W} {tys : List (ClassId × FieldType)} {a : Nat} (hexec : p.tables.exec = Jvm.exec) (hb : c.code = cc) (hK : va_K D cl tys s) (hP : va_P D cl ws H) (q0 t0 : Nat) {cA : ClassId} {n : Nat} {f : Nat → Int64} (ha : ws[q0]? = some (a, .inl (cA, n, .inr (.inl f)))) (ht : tys[t0]? = some (cA, .long)) {i : Int32} {x : Int64} (hout : ¬ vp_in i n) (hdg : decode cc pc = .ok (.lastore, 1))
    (k : ∀ tx : String, tx = (toString "Index " ++ toString i ++ toString " out of bounds for length " ++ toString n : String) → vx_Note p l e R s m args below meth c H locs cells slots Q (F0 m pc ls rest) "java/lang/ArrayIndexOutOfBoundsException" tx) : W p l e R s m args below meth c H locs cells slots Q (F0 m pc ls (.long x :: .int i :: .ref a :: rest)) := by
  intro T hT X
  obtain ⟨t, st, q⟩ := k _ rfl T hT X
  refine ⟨t, ?_, q⟩
  have h1 := X.lastoreOut hexec (by rw [hT]; exact hP q0 _ ha) ((hK.2 t0 _ ht).1 n (fun j => .long (f j))) (j := i) (by show (i < 0 ∨ (arrV _ _ _).slots.size ≤ _); rw [arrV_size]; exact Classical.byContradiction hout) (g := F0 m pc ls (.long x :: .int i :: .ref a :: rest)) rfl (rest := rest) rfl (by rw [hb]; exact hdg) t
  simp only [arrV_size] at h1
  exact h1 st
theorem vx_faldZ {D : va_G} {cl : List vw_C} {ws : va_W} {tys : List (ClassId × FieldType)} {a : Nat} (hexec : p.tables.exec = Jvm.exec) (hb : c.code = cc) (hK : va_K D cl tys s) (hP : va_P D cl ws H) (q0 t0 : Nat) {cA : ClassId} {n : Nat} {f : Nat → UInt32} (ha : ws[q0]? = some (a, .inl (cA, n, .inr (.inr (.inl f))))) (ht : tys[t0]? = some (cA, .float)) {i : Int32} (hout : ¬ vp_in i n) (hdg : decode cc pc = .ok (.faload, 1))
    (k : ∀ tx : String, tx = (toString "Index " ++ toString i ++ toString " out of bounds for length " ++ toString n : String) → vx_Note p l e R s m args below meth c H locs cells slots Q (F0 m pc ls rest) "java/lang/ArrayIndexOutOfBoundsException" tx) : W p l e R s m args below meth c H locs cells slots Q (F0 m pc ls (.int i :: .ref a :: rest)) := by
  intro T hT X
  obtain ⟨t, st, q⟩ := k _ rfl T hT X
  refine ⟨t, ?_, q⟩
  have h1 := X.faloadOut hexec (by rw [hT]; exact hP q0 _ ha) ((hK.2 t0 _ ht).1 n (fun j => .float (f j))) (j := i) (by show (i < 0 ∨ (arrV _ _ _).slots.size ≤ _); rw [arrV_size]; exact Classical.byContradiction hout) (g := F0 m pc ls (.int i :: .ref a :: rest)) rfl (rest := rest) rfl (by rw [hb]; exact hdg) t
  simp only [arrV_size] at h1
  exact h1 st
theorem vx_fastZ {D : va_G} {cl : List vw_C} {ws : va_W} {tys : List (ClassId × FieldType)} {a : Nat} (hexec : p.tables.exec = Jvm.exec) (hb : c.code = cc) (hK : va_K D cl tys s) (hP : va_P D cl ws H) (q0 t0 : Nat) {cA : ClassId} {n : Nat} {f : Nat → UInt32} (ha : ws[q0]? = some (a, .inl (cA, n, .inr (.inr (.inl f))))) (ht : tys[t0]? = some (cA, .float)) {i : Int32} {x : UInt32} (hout : ¬ vp_in i n) (hdg : decode cc pc = .ok (.fastore, 1))
    (k : ∀ tx : String, tx = (toString "Index " ++ toString i ++ toString " out of bounds for length " ++ toString n : String) → vx_Note p l e R s m args below meth c H locs cells slots Q (F0 m pc ls rest) "java/lang/ArrayIndexOutOfBoundsException" tx) : W p l e R s m args below meth c H locs cells slots Q (F0 m pc ls (.float x :: .int i :: .ref a :: rest)) := by
  intro T hT X
  obtain ⟨t, st, q⟩ := k _ rfl T hT X
  refine ⟨t, ?_, q⟩
  have h1 := X.fastoreOut hexec (by rw [hT]; exact hP q0 _ ha) ((hK.2 t0 _ ht).1 n (fun j => .float (f j))) (j := i) (by show (i < 0 ∨ (arrV _ _ _).slots.size ≤ _); rw [arrV_size]; exact Classical.byContradiction hout) (g := F0 m pc ls (.float x :: .int i :: .ref a :: rest)) rfl (rest := rest) rfl (by rw [hb]; exact hdg) t
  simp only [arrV_size] at h1
  exact h1 st
theorem vx_daldZ {D : va_G} {cl : List vw_C} {ws : va_W} {tys : List (ClassId × FieldType)} {a : Nat} (hexec : p.tables.exec = Jvm.exec) (hb : c.code = cc) (hK : va_K D cl tys s) (hP : va_P D cl ws H) (q0 t0 : Nat) {cA : ClassId} {n : Nat} {f : Nat → UInt64} (ha : ws[q0]? = some (a, .inl (cA, n, .inr (.inr (.inr (.inl f)))))) (ht : tys[t0]? = some (cA, .double)) {i : Int32} (hout : ¬ vp_in i n) (hdg : decode cc pc = .ok (.daload, 1))
    (k : ∀ tx : String, tx = (toString "Index " ++ toString i ++ toString " out of bounds for length " ++ toString n : String) → vx_Note p l e R s m args below meth c H locs cells slots Q (F0 m pc ls rest) "java/lang/ArrayIndexOutOfBoundsException" tx) : W p l e R s m args below meth c H locs cells slots Q (F0 m pc ls (.int i :: .ref a :: rest)) := by
  intro T hT X
  obtain ⟨t, st, q⟩ := k _ rfl T hT X
  refine ⟨t, ?_, q⟩
  have h1 := X.daloadOut hexec (by rw [hT]; exact hP q0 _ ha) ((hK.2 t0 _ ht).1 n (fun j => .double (f j))) (j := i) (by show (i < 0 ∨ (arrV _ _ _).slots.size ≤ _); rw [arrV_size]; exact Classical.byContradiction hout) (g := F0 m pc ls (.int i :: .ref a :: rest)) rfl (rest := rest) rfl (by rw [hb]; exact hdg) t
  simp only [arrV_size] at h1
  exact h1 st
theorem vx_dastZ {D : va_G} {cl : List vw_C} {ws : va_W} {tys : List (ClassId × FieldType)} {a : Nat} (hexec : p.tables.exec = Jvm.exec) (hb : c.code = cc) (hK : va_K D cl tys s) (hP : va_P D cl ws H) (q0 t0 : Nat) {cA : ClassId} {n : Nat} {f : Nat → UInt64} (ha : ws[q0]? = some (a, .inl (cA, n, .inr (.inr (.inr (.inl f)))))) (ht : tys[t0]? = some (cA, .double)) {i : Int32} {x : UInt64} (hout : ¬ vp_in i n) (hdg : decode cc pc = .ok (.dastore, 1))
    (k : ∀ tx : String, tx = (toString "Index " ++ toString i ++ toString " out of bounds for length " ++ toString n : String) → vx_Note p l e R s m args below meth c H locs cells slots Q (F0 m pc ls rest) "java/lang/ArrayIndexOutOfBoundsException" tx) : W p l e R s m args below meth c H locs cells slots Q (F0 m pc ls (.double x :: .int i :: .ref a :: rest)) := by
  intro T hT X
  obtain ⟨t, st, q⟩ := k _ rfl T hT X
  refine ⟨t, ?_, q⟩
  have h1 := X.dastoreOut hexec (by rw [hT]; exact hP q0 _ ha) ((hK.2 t0 _ ht).1 n (fun j => .double (f j))) (j := i) (by show (i < 0 ∨ (arrV _ _ _).slots.size ≤ _); rw [arrV_size]; exact Classical.byContradiction hout) (g := F0 m pc ls (.double x :: .int i :: .ref a :: rest)) rfl (rest := rest) rfl (by rw [hb]; exact hdg) t
  simp only [arrV_size] at h1
  exact h1 st
theorem vx_arraylengthN (hexec : p.tables.exec = Jvm.exec) (hb : c.code = cc) (hdg : decode cc pc = .ok (.arraylength, 1)) (k : vx_NoteN p l e R s m args below meth c H locs cells slots Q (F0 m pc ls rest)) : W p l e R s m args below meth c H locs cells slots Q (F0 m pc ls (.null :: rest)) := by
  intro T hT X
  obtain ⟨t, st, q⟩ := k T hT X
  exact ⟨t, X.arraylengthNull hexec (g := F0 m pc ls (.null :: rest)) rfl (rest := rest) rfl (by rw [hb]; exact hdg) t st, q⟩
theorem vx_ialoadN (hexec : p.tables.exec = Jvm.exec) (hb : c.code = cc) {i : Int32} (hdg : decode cc pc = .ok (.iaload, 1)) (k : vx_NoteN p l e R s m args below meth c H locs cells slots Q (F0 m pc ls rest)) : W p l e R s m args below meth c H locs cells slots Q (F0 m pc ls (.int i :: .null :: rest)) := by
  intro T hT X
  obtain ⟨t, st, q⟩ := k T hT X
  exact ⟨t, X.ialoadNull hexec (g := F0 m pc ls (.int i :: .null :: rest)) rfl (rest := rest) rfl (by rw [hb]; exact hdg) t st, q⟩
theorem vx_laloadN (hexec : p.tables.exec = Jvm.exec) (hb : c.code = cc) {i : Int32} (hdg : decode cc pc = .ok (.laload, 1)) (k : vx_NoteN p l e R s m args below meth c H locs cells slots Q (F0 m pc ls rest)) : W p l e R s m args below meth c H locs cells slots Q (F0 m pc ls (.int i :: .null :: rest)) := by
  intro T hT X
  obtain ⟨t, st, q⟩ := k T hT X
  exact ⟨t, X.laloadNull hexec (g := F0 m pc ls (.int i :: .null :: rest)) rfl (rest := rest) rfl (by rw [hb]; exact hdg) t st, q⟩
theorem vx_faloadN (hexec : p.tables.exec = Jvm.exec) (hb : c.code = cc) {i : Int32} (hdg : decode cc pc = .ok (.faload, 1)) (k : vx_NoteN p l e R s m args below meth c H locs cells slots Q (F0 m pc ls rest)) : W p l e R s m args below meth c H locs cells slots Q (F0 m pc ls (.int i :: .null :: rest)) := by
  intro T hT X
  obtain ⟨t, st, q⟩ := k T hT X
  exact ⟨t, X.faloadNull hexec (g := F0 m pc ls (.int i :: .null :: rest)) rfl (rest := rest) rfl (by rw [hb]; exact hdg) t st, q⟩
theorem vx_daloadN (hexec : p.tables.exec = Jvm.exec) (hb : c.code = cc) {i : Int32} (hdg : decode cc pc = .ok (.daload, 1)) (k : vx_NoteN p l e R s m args below meth c H locs cells slots Q (F0 m pc ls rest)) : W p l e R s m args below meth c H locs cells slots Q (F0 m pc ls (.int i :: .null :: rest)) := by
  intro T hT X
  obtain ⟨t, st, q⟩ := k T hT X
  exact ⟨t, X.daloadNull hexec (g := F0 m pc ls (.int i :: .null :: rest)) rfl (rest := rest) rfl (by rw [hb]; exact hdg) t st, q⟩
theorem vx_aaloadN (hexec : p.tables.exec = Jvm.exec) (hb : c.code = cc) {i : Int32} (hdg : decode cc pc = .ok (.aaload, 1)) (k : vx_NoteN p l e R s m args below meth c H locs cells slots Q (F0 m pc ls rest)) : W p l e R s m args below meth c H locs cells slots Q (F0 m pc ls (.int i :: .null :: rest)) := by
  intro T hT X
  obtain ⟨t, st, q⟩ := k T hT X
  exact ⟨t, X.aaloadNull hexec (g := F0 m pc ls (.int i :: .null :: rest)) rfl (rest := rest) rfl (by rw [hb]; exact hdg) t st, q⟩
theorem vx_baloadN (hexec : p.tables.exec = Jvm.exec) (hb : c.code = cc) {i : Int32} (hdg : decode cc pc = .ok (.baload, 1)) (k : vx_NoteN p l e R s m args below meth c H locs cells slots Q (F0 m pc ls rest)) : W p l e R s m args below meth c H locs cells slots Q (F0 m pc ls (.int i :: .null :: rest)) := by
  intro T hT X
  obtain ⟨t, st, q⟩ := k T hT X
  exact ⟨t, X.baloadNull hexec (g := F0 m pc ls (.int i :: .null :: rest)) rfl (rest := rest) rfl (by rw [hb]; exact hdg) t st, q⟩
theorem vx_caloadN (hexec : p.tables.exec = Jvm.exec) (hb : c.code = cc) {i : Int32} (hdg : decode cc pc = .ok (.caload, 1)) (k : vx_NoteN p l e R s m args below meth c H locs cells slots Q (F0 m pc ls rest)) : W p l e R s m args below meth c H locs cells slots Q (F0 m pc ls (.int i :: .null :: rest)) := by
  intro T hT X
  obtain ⟨t, st, q⟩ := k T hT X
  exact ⟨t, X.caloadNull hexec (g := F0 m pc ls (.int i :: .null :: rest)) rfl (rest := rest) rfl (by rw [hb]; exact hdg) t st, q⟩
theorem vx_saloadN (hexec : p.tables.exec = Jvm.exec) (hb : c.code = cc) {i : Int32} (hdg : decode cc pc = .ok (.saload, 1)) (k : vx_NoteN p l e R s m args below meth c H locs cells slots Q (F0 m pc ls rest)) : W p l e R s m args below meth c H locs cells slots Q (F0 m pc ls (.int i :: .null :: rest)) := by
  intro T hT X
  obtain ⟨t, st, q⟩ := k T hT X
  exact ⟨t, X.saloadNull hexec (g := F0 m pc ls (.int i :: .null :: rest)) rfl (rest := rest) rfl (by rw [hb]; exact hdg) t st, q⟩
theorem vx_iastoreN (hexec : p.tables.exec = Jvm.exec) (hb : c.code = cc) {x : Int32} {i : Int32} (hdg : decode cc pc = .ok (.iastore, 1)) (k : vx_NoteN p l e R s m args below meth c H locs cells slots Q (F0 m pc ls rest)) : W p l e R s m args below meth c H locs cells slots Q (F0 m pc ls (.int x :: .int i :: .null :: rest)) := by
  intro T hT X
  obtain ⟨t, st, q⟩ := k T hT X
  exact ⟨t, X.iastoreNull hexec (g := F0 m pc ls (.int x :: .int i :: .null :: rest)) rfl (rest := rest) rfl (by rw [hb]; exact hdg) t st, q⟩
theorem vx_lastoreN (hexec : p.tables.exec = Jvm.exec) (hb : c.code = cc) {x : Int64} {i : Int32} (hdg : decode cc pc = .ok (.lastore, 1)) (k : vx_NoteN p l e R s m args below meth c H locs cells slots Q (F0 m pc ls rest)) : W p l e R s m args below meth c H locs cells slots Q (F0 m pc ls (.long x :: .int i :: .null :: rest)) := by
  intro T hT X
  obtain ⟨t, st, q⟩ := k T hT X
  exact ⟨t, X.lastoreNull hexec (g := F0 m pc ls (.long x :: .int i :: .null :: rest)) rfl (rest := rest) rfl (by rw [hb]; exact hdg) t st, q⟩
theorem vx_fastoreN (hexec : p.tables.exec = Jvm.exec) (hb : c.code = cc) {x : UInt32} {i : Int32} (hdg : decode cc pc = .ok (.fastore, 1)) (k : vx_NoteN p l e R s m args below meth c H locs cells slots Q (F0 m pc ls rest)) : W p l e R s m args below meth c H locs cells slots Q (F0 m pc ls (.float x :: .int i :: .null :: rest)) := by
  intro T hT X
  obtain ⟨t, st, q⟩ := k T hT X
  exact ⟨t, X.fastoreNull hexec (g := F0 m pc ls (.float x :: .int i :: .null :: rest)) rfl (rest := rest) rfl (by rw [hb]; exact hdg) t st, q⟩
theorem vx_dastoreN (hexec : p.tables.exec = Jvm.exec) (hb : c.code = cc) {x : UInt64} {i : Int32} (hdg : decode cc pc = .ok (.dastore, 1)) (k : vx_NoteN p l e R s m args below meth c H locs cells slots Q (F0 m pc ls rest)) : W p l e R s m args below meth c H locs cells slots Q (F0 m pc ls (.double x :: .int i :: .null :: rest)) := by
  intro T hT X
  obtain ⟨t, st, q⟩ := k T hT X
  exact ⟨t, X.dastoreNull hexec (g := F0 m pc ls (.double x :: .int i :: .null :: rest)) rfl (rest := rest) rfl (by rw [hb]; exact hdg) t st, q⟩
theorem vx_bastoreN (hexec : p.tables.exec = Jvm.exec) (hb : c.code = cc) {x : Int32} {i : Int32} (hdg : decode cc pc = .ok (.bastore, 1)) (k : vx_NoteN p l e R s m args below meth c H locs cells slots Q (F0 m pc ls rest)) : W p l e R s m args below meth c H locs cells slots Q (F0 m pc ls (.int x :: .int i :: .null :: rest)) := by
  intro T hT X
  obtain ⟨t, st, q⟩ := k T hT X
  exact ⟨t, X.bastoreNull hexec (g := F0 m pc ls (.int x :: .int i :: .null :: rest)) rfl (rest := rest) rfl (by rw [hb]; exact hdg) t st, q⟩
theorem vx_castoreN (hexec : p.tables.exec = Jvm.exec) (hb : c.code = cc) {x : Int32} {i : Int32} (hdg : decode cc pc = .ok (.castore, 1)) (k : vx_NoteN p l e R s m args below meth c H locs cells slots Q (F0 m pc ls rest)) : W p l e R s m args below meth c H locs cells slots Q (F0 m pc ls (.int x :: .int i :: .null :: rest)) := by
  intro T hT X
  obtain ⟨t, st, q⟩ := k T hT X
  exact ⟨t, X.castoreNull hexec (g := F0 m pc ls (.int x :: .int i :: .null :: rest)) rfl (rest := rest) rfl (by rw [hb]; exact hdg) t st, q⟩
theorem vx_sastoreN (hexec : p.tables.exec = Jvm.exec) (hb : c.code = cc) {x : Int32} {i : Int32} (hdg : decode cc pc = .ok (.sastore, 1)) (k : vx_NoteN p l e R s m args below meth c H locs cells slots Q (F0 m pc ls rest)) : W p l e R s m args below meth c H locs cells slots Q (F0 m pc ls (.int x :: .int i :: .null :: rest)) := by
  intro T hT X
  obtain ⟨t, st, q⟩ := k T hT X
  exact ⟨t, X.sastoreNull hexec (g := F0 m pc ls (.int x :: .int i :: .null :: rest)) rfl (rest := rest) rfl (by rw [hb]; exact hdg) t st, q⟩
theorem vx_invokeN {own C : String} {index maxL : Nat} {y : MethodName} {bytes : ByteArray} {ret : Option FieldType} (hexec : p.tables.exec = Jvm.exec) (hb : c.code = cc) (hown : s.vm.findClass own = some m.cls) (hlink : (Cond.methodLink own index y).before args s = true) (hinst : (Cond.instanceMethod y).before args s = true) (hcode : (Cond.code y bytes maxL ret).before args s = true) (hsel : (Cond.selects C y y).before args s = true)
    (hx : y.cls ≠ "java/lang/invoke/MethodHandle" ∧ y.cls ≠ "java/lang/invoke/VarHandle") {As : List Value} (hlen : (parseMethodDescriptor y.desc).map (fun d => d.parameters.length) = some As.length) (hdg : decode cc pc = .ok (.invokevirtual index, 3))
    (k : vx_NoteN p l e R s m args below meth c H locs cells slots Q (F0 m pc ls rest)) {st0 : List Value} (hst : st0 = As.reverse ++ .null :: rest) : W p l e R s m args below meth c H locs cells slots Q (F0 m pc ls st0) := by
  intro T hT X
  obtain ⟨r0, r, hn, hrm, hstR, hsigR⟩ := va_Decl.of hinst hcode
  obtain ⟨c2, r2, m2, q1, q2, q3, q4, kP, hkP, hkPi⟩ := Cond.selects_spec hsel
  cases hn.symm.trans q3
  have hl9 : As.length = r.sig.parameters.length := by
    rw [hsigR] at hlen
    exact (Option.some.inj hlen).symm
  obtain ⟨vm', X1, st1⟩ := X.invokevirtualNull hexec hown hlink hn hrm hstR hkP hkPi hx (g := F0 m pc ls st0) rfl (argsL := As) (rest := rest) hl9 hst (by rw [hb]; exact hdg)
  obtain ⟨t, st, q⟩ := k (T.setVm vm') hT X1
  exact ⟨t, st1 t st, q⟩
theorem vx_newarrayZ {atype : ArrayType} (hexec : p.tables.exec = Jvm.exec) (hb : c.code = cc) {n : Int32} (h0 : n < 0) (hdg : decode cc pc = .ok (.newarray atype, 2)) (k : ∀ tx : String, tx = toString n → vx_Note p l e R s m args below meth c H locs cells slots Q (F0 m pc ls rest) "java/lang/NegativeArraySizeException" tx) : W p l e R s m args below meth c H locs cells slots Q (F0 m pc ls (.int n :: rest)) := by
  intro T hT X
  obtain ⟨t, st, q⟩ := k _ rfl T hT X
  exact ⟨t, X.newarrayNegative hexec (g := F0 m pc ls (.int n :: rest)) rfl h0 (rest := rest) rfl (by rw [hb]; exact hdg) t st, q⟩
end
end VXM
/-! ===== END ===== -/
end
section
def RX0 : String := "Spanwarden$Bench"
def TX0 : u_T := fun k => match k with
  | 0 => ("Spanwarden$Bench", "keySet", "LSpanwarden$Table;", true)
  | 1 => ("Spanwarden$Bench", "left", "LSpanwarden$Table;", true)
  | 2 => ("Spanwarden$Bench", "right", "LSpanwarden$Table;", true)
  | _ => ("Spanwarden$Bench", "turned", "LSpanwarden$History;", true)
def tyX0 : Nat → FieldType := fun k => match k with
  | 0 => .object "Spanwarden$Table"
  | 1 => .object "Spanwarden$Table"
  | 2 => .object "Spanwarden$Table"
  | _ => .object "Spanwarden$History"
abbrev wsX00 : List Cond := u_ws RX0 TX0 4
theorem nmX0 : ∀ a, a < 4 → ∀ b, b < 4 → a ≠ b → (TX0 a).2.1 ≠ (TX0 b).2.1 := by decide +kernel
theorem tyX0_ok : ∀ k, k < 4 → parseFieldDescriptor (TX0 k).2.2.1 = some (tyX0 k) := by decide +kernel
abbrev cX0_init : ByteArray := prog_2_method_1_code
def yX0_init : MethodName := ⟨RX0, "<init>", "()V"⟩
abbrev cX0_countKeys : ByteArray := prog_2_method_2_code
def yX0_countKeys : MethodName := ⟨RX0, "countKeys", "(LSpanwarden$History;LSpanwarden$History;)I"⟩
abbrev cX0_countCommonKeys : ByteArray := prog_2_method_3_code
def yX0_countCommonKeys : MethodName := ⟨RX0, "countCommonKeys", "(LSpanwarden$History;LSpanwarden$History;)I"⟩
abbrev cX0_hasRoom : ByteArray := prog_2_method_4_code
def yX0_hasRoom : MethodName := ⟨RX0, "hasRoom", "(LSpanwarden$Table;LSpanwarden$History;LSpanwarden$History;)Z"⟩
abbrev cX0_turnRound : ByteArray := prog_2_method_5_code
def yX0_turnRound : MethodName := ⟨RX0, "turnRound", "(LSpanwarden$History;LSpanwarden$Table;LSpanwarden$History;)V"⟩
abbrev cX0_areNearKeysSound : ByteArray := prog_2_method_6_code
def yX0_areNearKeysSound : MethodName := ⟨RX0, "areNearKeysSound", "(LSpanwarden$Table;)Z"⟩
abbrev cX0_isSplitSound : ByteArray := prog_2_method_7_code
def yX0_isSplitSound : MethodName := ⟨RX0, "isSplitSound", "(LSpanwarden$Table;IZ)Z"⟩
abbrev cX0_isBelow : ByteArray := prog_2_method_8_code
def yX0_isBelow : MethodName := ⟨RX0, "isBelow", "(IIZ)Z"⟩
abbrev cX0_arePollsSound : ByteArray := prog_2_method_9_code
def yX0_arePollsSound : MethodName := ⟨RX0, "arePollsSound", "(LSpanwarden$Table;)Z"⟩
abbrev cX0_arePollsSoundFrom : ByteArray := prog_2_method_10_code
def yX0_arePollsSoundFrom : MethodName := ⟨RX0, "arePollsSoundFrom", "(LSpanwarden$Table;Z)Z"⟩
abbrev cX0_isOrderFree : ByteArray := prog_2_method_11_code
def yX0_isOrderFree : MethodName := ⟨RX0, "isOrderFree", "(LSpanwarden$History;LSpanwarden$History;LSpanwarden$Table;)Z"⟩
abbrev cX0_isUndone : ByteArray := prog_2_method_12_code
def yX0_isUndone : MethodName := ⟨RX0, "isUndone", "(LSpanwarden$History;LSpanwarden$Table;)Z"⟩
abbrev cX0_isMixAlike : ByteArray := prog_2_method_13_code
def yX0_isMixAlike : MethodName := ⟨RX0, "isMixAlike", "(LSpanwarden$Table;LSpanwarden$Table;C)Z"⟩
def RX1 : String := "Spanwarden$History"
def TX1 : u_T := fun k => match k with
  | 0 => ("Spanwarden$History", "count", "I", false)
  | 1 => ("Spanwarden$History", "kinds", "[C", true)
  | 2 => ("Spanwarden$History", "keys", "[I", true)
  | _ => ("Spanwarden$History", "numbers", "[I", true)
def tyX1 : Nat → FieldType := fun k => match k with
  | 0 => .int
  | 1 => .array .char
  | 2 => .array .int
  | _ => .array .int
abbrev wsX10 : List Cond := u_ws RX1 TX1 4
theorem nmX1 : ∀ a, a < 4 → ∀ b, b < 4 → a ≠ b → (TX1 a).2.1 ≠ (TX1 b).2.1 := by decide +kernel
theorem tyX1_ok : ∀ k, k < 4 → parseFieldDescriptor (TX1 k).2.2.1 = some (tyX1 k) := by decide +kernel
abbrev cX1_init : ByteArray := prog_3_method_1_code
def yX1_init : MethodName := ⟨RX1, "<init>", "()V"⟩
abbrev cX1_add : ByteArray := prog_3_method_2_code
def yX1_add : MethodName := ⟨RX1, "add", "(CII)V"⟩
abbrev cX1_doStep : ByteArray := prog_3_method_3_code
def yX1_doStep : MethodName := ⟨RX1, "doStep", "(ILSpanwarden$Table;)V"⟩
abbrev cX1_playOn : ByteArray := prog_3_method_4_code
def yX1_playOn : MethodName := ⟨RX1, "playOn", "(LSpanwarden$Table;)I"⟩
abbrev cX1_addKeysTo : ByteArray := prog_3_method_5_code
def yX1_addKeysTo : MethodName := ⟨RX1, "addKeysTo", "(LSpanwarden$Table;)V"⟩
abbrev cX1_addTo : ByteArray := prog_3_method_6_code
def yX1_addTo : MethodName := ⟨RX1, "addTo", "(J)J"⟩
def RX2 : String := "Spanwarden$Table"
def TX2 : u_T := fun k => match k with
  | 0 => ("Spanwarden$Table", "keys", "[I", true)
  | 1 => ("Spanwarden$Table", "values", "[I", true)
  | _ => ("Spanwarden$Table", "count", "I", false)
def tyX2 : Nat → FieldType := fun k => match k with
  | 0 => .array .int
  | 1 => .array .int
  | _ => .int
abbrev wsX20 : List Cond := u_ws RX2 TX2 3
theorem nmX2 : ∀ a, a < 3 → ∀ b, b < 3 → a ≠ b → (TX2 a).2.1 ≠ (TX2 b).2.1 := by decide +kernel
theorem tyX2_ok : ∀ k, k < 3 → parseFieldDescriptor (TX2 k).2.2.1 = some (tyX2 k) := by decide +kernel
abbrev cX2_init : ByteArray := prog_4_method_1_code
def yX2_init : MethodName := ⟨RX2, "<init>", "()V"⟩
abbrev cX2_countBelow : ByteArray := prog_4_method_2_code
def yX2_countBelow : MethodName := ⟨RX2, "countBelow", "(I)I"⟩
abbrev cX2_countUpTo : ByteArray := prog_4_method_3_code
def yX2_countUpTo : MethodName := ⟨RX2, "countUpTo", "(I)I"⟩
abbrev cX2_placeOf : ByteArray := prog_4_method_4_code
def yX2_placeOf : MethodName := ⟨RX2, "placeOf", "(I)I"⟩
abbrev cX2_placeNear : ByteArray := prog_4_method_5_code
def yX2_placeNear : MethodName := ⟨RX2, "placeNear", "(ICII)I"⟩
abbrev cX2_set : ByteArray := prog_4_method_6_code
def yX2_set : MethodName := ⟨RX2, "set", "(II)Z"⟩
abbrev cX2_drop : ByteArray := prog_4_method_7_code
def yX2_drop : MethodName := ⟨RX2, "drop", "(I)Z"⟩
abbrev cX2_dropPlaces : ByteArray := prog_4_method_8_code
def yX2_dropPlaces : MethodName := ⟨RX2, "dropPlaces", "(II)V"⟩
abbrev cX2_change : ByteArray := prog_4_method_9_code
def yX2_change : MethodName := ⟨RX2, "change", "(CII)Z"⟩
abbrev cX2_countMissingIn : ByteArray := prog_4_method_10_code
def yX2_countMissingIn : MethodName := ⟨RX2, "countMissingIn", "(LSpanwarden$Table;)I"⟩
abbrev cX2_takeIn : ByteArray := prog_4_method_11_code
def yX2_takeIn : MethodName := ⟨RX2, "takeIn", "(LSpanwarden$Table;C)V"⟩
abbrev cX2_mix : ByteArray := prog_4_method_12_code
def yX2_mix : MethodName := ⟨RX2, "mix", "(IIC)I"⟩
abbrev cX2_becomeCopy : ByteArray := prog_4_method_13_code
def yX2_becomeCopy : MethodName := ⟨RX2, "becomeCopy", "(LSpanwarden$Table;)V"⟩
abbrev cX2_isSame : ByteArray := prog_4_method_14_code
def yX2_isSame : MethodName := ⟨RX2, "isSame", "(LSpanwarden$Table;)Z"⟩
abbrev cX2_hasSameAt : ByteArray := prog_4_method_15_code
def yX2_hasSameAt : MethodName := ⟨RX2, "hasSameAt", "(ILSpanwarden$Table;I)Z"⟩
abbrev cX2_addTo : ByteArray := prog_4_method_16_code
def yX2_addTo : MethodName := ⟨RX2, "addTo", "(J)J"⟩
def RX3 : String := "Spanwarden$View"
def TX3 : u_T := fun k => match k with
  | 0 => ("Spanwarden$View", "source", "LSpanwarden$Table;", false)
  | 1 => ("Spanwarden$View", "cuts", "I", false)
  | 2 => ("Spanwarden$View", "from", "I", false)
  | 3 => ("Spanwarden$View", "isFrom", "Z", false)
  | 4 => ("Spanwarden$View", "to", "I", false)
  | _ => ("Spanwarden$View", "isTo", "Z", false)
def tyX3 : Nat → FieldType := fun k => match k with
  | 0 => .object "Spanwarden$Table"
  | 1 => .int
  | 2 => .int
  | 3 => .boolean
  | 4 => .int
  | _ => .boolean
abbrev wsX30 : List Cond := u_ws RX3 TX3 6
theorem nmX3 : ∀ a, a < 6 → ∀ b, b < 6 → a ≠ b → (TX3 a).2.1 ≠ (TX3 b).2.1 := by decide +kernel
theorem tyX3_ok : ∀ k, k < 6 → parseFieldDescriptor (TX3 k).2.2.1 = some (tyX3 k) := by decide +kernel
abbrev cX3_init : ByteArray := prog_5_method_1_code
def yX3_init : MethodName := ⟨RX3, "<init>", "()V"⟩
abbrev cX3_becomeSpan : ByteArray := prog_5_method_2_code
def yX3_becomeSpan : MethodName := ⟨RX3, "becomeSpan", "(LSpanwarden$Table;IZIZ)V"⟩
abbrev cX3_becomeCut : ByteArray := prog_5_method_3_code
def yX3_becomeCut : MethodName := ⟨RX3, "becomeCut", "(LSpanwarden$View;ZIZ)V"⟩
abbrev cX3_covers : ByteArray := prog_5_method_4_code
def yX3_covers : MethodName := ⟨RX3, "covers", "(I)Z"⟩
abbrev cX3_beginIn : ByteArray := prog_5_method_5_code
def yX3_beginIn : MethodName := ⟨RX3, "beginIn", "(LSpanwarden$Table;)I"⟩
abbrev cX3_stopIn : ByteArray := prog_5_method_6_code
def yX3_stopIn : MethodName := ⟨RX3, "stopIn", "(LSpanwarden$Table;)I"⟩
abbrev cX3_countEntries : ByteArray := prog_5_method_7_code
def yX3_countEntries : MethodName := ⟨RX3, "countEntries", "()I"⟩
abbrev cX3_hasJustItsSpan : ByteArray := prog_5_method_8_code
def yX3_hasJustItsSpan : MethodName := ⟨RX3, "hasJustItsSpan", "()Z"⟩
abbrev cX3_addTo : ByteArray := prog_5_method_9_code
def yX3_addTo : MethodName := ⟨RX3, "addTo", "(J)J"⟩
def RX4 : String := "Spanwarden"
def TX4 : u_T := fun k => match k with
  | 0 => ("Spanwarden", "maps", "[LSpanwarden$Table;", true)
  | 1 => ("Spanwarden", "views", "[LSpanwarden$View;", true)
  | 2 => ("Spanwarden", "histories", "[LSpanwarden$History;", true)
  | 3 => ("Spanwarden", "bench", "LSpanwarden$Bench;", true)
  | 4 => ("Spanwarden", "drainedKeys", "[I", true)
  | 5 => ("Spanwarden", "drainedCount", "I", false)
  | 6 => ("Spanwarden", "hasPolled", "Z", false)
  | _ => ("Spanwarden", "polledValue", "I", false)
def tyX4 : Nat → FieldType := fun k => match k with
  | 0 => .array (.object "Spanwarden$Table")
  | 1 => .array (.object "Spanwarden$View")
  | 2 => .array (.object "Spanwarden$History")
  | 3 => .object "Spanwarden$Bench"
  | 4 => .array .int
  | 5 => .int
  | 6 => .boolean
  | _ => .int
abbrev wsX40 : List Cond := u_ws RX4 TX4 8
theorem nmX4 : ∀ a, a < 8 → ∀ b, b < 8 → a ≠ b → (TX4 a).2.1 ≠ (TX4 b).2.1 := by decide +kernel
theorem tyX4_ok : ∀ k, k < 8 → parseFieldDescriptor (TX4 k).2.2.1 = some (tyX4 k) := by decide +kernel
abbrev cX4_init : ByteArray := prog_1_method_1_code
def yX4_init : MethodName := ⟨RX4, "<init>", "()V"⟩
abbrev cX4_put : ByteArray := prog_1_method_2_code
def yX4_put : MethodName := ⟨RX4, "put", "(III)I"⟩
abbrev cX4_value : ByteArray := prog_1_method_3_code
def yX4_value : MethodName := ⟨RX4, "value", "(II)I"⟩
abbrev cX4_remove : ByteArray := prog_1_method_4_code
def yX4_remove : MethodName := ⟨RX4, "remove", "(II)I"⟩
abbrev cX4_near : ByteArray := prog_1_method_5_code
def yX4_near : MethodName := ⟨RX4, "near", "(IIC)I"⟩
abbrev cX4_end : ByteArray := prog_1_method_6_code
def yX4_end : MethodName := ⟨RX4, "end", "(IZ)I"⟩
abbrev cX4_poll : ByteArray := prog_1_method_7_code
def yX4_poll : MethodName := ⟨RX4, "poll", "(IZ)I"⟩
abbrev cX4_polled : ByteArray := prog_1_method_8_code
def yX4_polled : MethodName := ⟨RX4, "polled", "()I"⟩
abbrev cX4_drain : ByteArray := prog_1_method_9_code
def yX4_drain : MethodName := ⟨RX4, "drain", "(IZ)I"⟩
abbrev cX4_drained : ByteArray := prog_1_method_10_code
def yX4_drained : MethodName := ⟨RX4, "drained", "(I)I"⟩
abbrev cX4_size : ByteArray := prog_1_method_11_code
def yX4_size : MethodName := ⟨RX4, "size", "(I)I"⟩
abbrev cX4_keyAt : ByteArray := prog_1_method_12_code
def yX4_keyAt : MethodName := ⟨RX4, "keyAt", "(IIZ)I"⟩
abbrev cX4_mark : ByteArray := prog_1_method_13_code
def yX4_mark : MethodName := ⟨RX4, "mark", "(I)I"⟩
abbrev cX4_isLike : ByteArray := prog_1_method_14_code
def yX4_isLike : MethodName := ⟨RX4, "isLike", "(II)Z"⟩
abbrev cX4_open : ByteArray := prog_1_method_15_code
def yX4_open : MethodName := ⟨RX4, "open", "(IIIZIZ)I"⟩
abbrev cX4_cut : ByteArray := prog_1_method_16_code
def yX4_cut : MethodName := ⟨RX4, "cut", "(IIZIZ)I"⟩
abbrev cX4_viewPut : ByteArray := prog_1_method_17_code
def yX4_viewPut : MethodName := ⟨RX4, "viewPut", "(III)I"⟩
abbrev cX4_viewRemove : ByteArray := prog_1_method_18_code
def yX4_viewRemove : MethodName := ⟨RX4, "viewRemove", "(II)Z"⟩
abbrev cX4_viewNear : ByteArray := prog_1_method_19_code
def yX4_viewNear : MethodName := ⟨RX4, "viewNear", "(IIC)I"⟩
abbrev cX4_viewEnd : ByteArray := prog_1_method_20_code
def yX4_viewEnd : MethodName := ⟨RX4, "viewEnd", "(IZ)I"⟩
abbrev cX4_viewPoll : ByteArray := prog_1_method_21_code
def yX4_viewPoll : MethodName := ⟨RX4, "viewPoll", "(IZ)I"⟩
abbrev cX4_viewClear : ByteArray := prog_1_method_22_code
def yX4_viewClear : MethodName := ⟨RX4, "viewClear", "(I)I"⟩
abbrev cX4_viewSize : ByteArray := prog_1_method_23_code
def yX4_viewSize : MethodName := ⟨RX4, "viewSize", "(I)I"⟩
abbrev cX4_lies : ByteArray := prog_1_method_24_code
def yX4_lies : MethodName := ⟨RX4, "lies", "(II)Z"⟩
abbrev cX4_step : ByteArray := prog_1_method_25_code
def yX4_step : MethodName := ⟨RX4, "step", "(ICII)I"⟩
abbrev cX4_forget : ByteArray := prog_1_method_26_code
def yX4_forget : MethodName := ⟨RX4, "forget", "(I)I"⟩
abbrev cX4_play : ByteArray := prog_1_method_27_code
def yX4_play : MethodName := ⟨RX4, "play", "(II)I"⟩
abbrev cX4_playBoth : ByteArray := prog_1_method_28_code
def yX4_playBoth : MethodName := ⟨RX4, "playBoth", "(IIII)I"⟩
abbrev cX4_meet : ByteArray := prog_1_method_29_code
def yX4_meet : MethodName := ⟨RX4, "meet", "(II)I"⟩
abbrev cX4_opposite : ByteArray := prog_1_method_30_code
def yX4_opposite : MethodName := ⟨RX4, "opposite", "(III)I"⟩
abbrev cX4_combine : ByteArray := prog_1_method_31_code
def yX4_combine : MethodName := ⟨RX4, "combine", "(IIC)I"⟩
abbrev cX4_fullShare : ByteArray := prog_1_method_32_code
def yX4_fullShare : MethodName := ⟨RX4, "fullShare", "(I)F"⟩
abbrev cX4_meanKey : ByteArray := prog_1_method_33_code
def yX4_meanKey : MethodName := ⟨RX4, "meanKey", "(I)D"⟩
abbrev cX4_checksum : ByteArray := prog_1_method_34_code
def yX4_checksum : MethodName := ⟨RX4, "checksum", "()J"⟩
abbrev cX4_isSound : ByteArray := prog_1_method_35_code
def yX4_isSound : MethodName := ⟨RX4, "isSound", "()Z"⟩
abbrev cX4_areMapsSound : ByteArray := prog_1_method_36_code
def yX4_areMapsSound : MethodName := ⟨RX4, "areMapsSound", "()Z"⟩
abbrev cX4_areViewsSound : ByteArray := prog_1_method_37_code
def yX4_areViewsSound : MethodName := ⟨RX4, "areViewsSound", "()Z"⟩
abbrev cX4_areOrdersFree : ByteArray := prog_1_method_38_code
def yX4_areOrdersFree : MethodName := ⟨RX4, "areOrdersFree", "()Z"⟩
abbrev cX4_isOrderFreeOnAll : ByteArray := prog_1_method_39_code
def yX4_isOrderFreeOnAll : MethodName := ⟨RX4, "isOrderFreeOnAll", "(LSpanwarden$History;LSpanwarden$History;)Z"⟩
abbrev cX4_areOppositesSound : ByteArray := prog_1_method_40_code
def yX4_areOppositesSound : MethodName := ⟨RX4, "areOppositesSound", "()Z"⟩
abbrev cX4_areMixesSound : ByteArray := prog_1_method_41_code
def yX4_areMixesSound : MethodName := ⟨RX4, "areMixesSound", "()Z"⟩
abbrev cX4_mapAt : ByteArray := prog_1_method_42_code
def yX4_mapAt : MethodName := ⟨RX4, "mapAt", "(I)LSpanwarden$Table;"⟩
abbrev cX4_viewAt : ByteArray := prog_1_method_43_code
def yX4_viewAt : MethodName := ⟨RX4, "viewAt", "(I)LSpanwarden$View;"⟩
abbrev cX4_historyAt : ByteArray := prog_1_method_44_code
def yX4_historyAt : MethodName := ⟨RX4, "historyAt", "(I)LSpanwarden$History;"⟩
abbrev cX4_refuseClosed : ByteArray := prog_1_method_45_code
def yX4_refuseClosed : MethodName := ⟨RX4, "refuseClosed", "(LSpanwarden$View;)V"⟩
abbrev cX4_sourceOf : ByteArray := prog_1_method_46_code
def yX4_sourceOf : MethodName := ⟨RX4, "sourceOf", "(LSpanwarden$View;)LSpanwarden$Table;"⟩
abbrev cX4_endPlace : ByteArray := prog_1_method_47_code
def yX4_endPlace : MethodName := ⟨RX4, "endPlace", "(IIZ)I"⟩
abbrev cX4_putWithin : ByteArray := prog_1_method_48_code
def yX4_putWithin : MethodName := ⟨RX4, "putWithin", "(LSpanwarden$Table;II)V"⟩
abbrev cX4_pollAt : ByteArray := prog_1_method_49_code
def yX4_pollAt : MethodName := ⟨RX4, "pollAt", "(LSpanwarden$Table;I)I"⟩
abbrev cX4_playByTurns : ByteArray := prog_1_method_50_code
def yX4_playByTurns : MethodName := ⟨RX4, "playByTurns", "(LSpanwarden$History;LSpanwarden$History;ILSpanwarden$Table;)V"⟩
abbrev cX4_isNearWay : ByteArray := prog_1_method_51_code
def yX4_isNearWay : MethodName := ⟨RX4, "isNearWay", "(C)Z"⟩
abbrev cX4_isStepKind : ByteArray := prog_1_method_52_code
def yX4_isStepKind : MethodName := ⟨RX4, "isStepKind", "(C)Z"⟩
abbrev cX4_isMixWay : ByteArray := prog_1_method_53_code
def yX4_isMixWay : MethodName := ⟨RX4, "isMixWay", "(C)Z"⟩
abbrev cX4_chain : ByteArray := prog_1_method_54_code
def yX4_chain : MethodName := ⟨RX4, "chain", "(JI)J"⟩
def RX5 : String := "SpanwardenModel"
def TX5 : u_T := fun k => match k with
  | 0 => ("SpanwardenModel", "keys", "[I", true)
  | 1 => ("SpanwardenModel", "values", "[I", true)
  | 2 => ("SpanwardenModel", "sizes", "[I", true)
  | 3 => ("SpanwardenModel", "isOpen", "[Z", true)
  | 4 => ("SpanwardenModel", "viewMap", "[I", true)
  | 5 => ("SpanwardenModel", "viewFrom", "[I", true)
  | 6 => ("SpanwardenModel", "viewTo", "[I", true)
  | 7 => ("SpanwardenModel", "hasFrom", "[Z", true)
  | 8 => ("SpanwardenModel", "hasTo", "[Z", true)
  | 9 => ("SpanwardenModel", "cuts", "[I", true)
  | 10 => ("SpanwardenModel", "stepKind", "[C", true)
  | 11 => ("SpanwardenModel", "stepKey", "[I", true)
  | 12 => ("SpanwardenModel", "stepNumber", "[I", true)
  | 13 => ("SpanwardenModel", "steps", "[I", true)
  | 14 => ("SpanwardenModel", "some", "[I", true)
  | 15 => ("SpanwardenModel", "somes", "I", false)
  | 16 => ("SpanwardenModel", "row", "[I", true)
  | 17 => ("SpanwardenModel", "rows", "I", false)
  | 18 => ("SpanwardenModel", "hasPolled", "Z", false)
  | 19 => ("SpanwardenModel", "polled", "I", false)
  | _ => ("SpanwardenModel", "thrown", "I", false)
def tyX5 : Nat → FieldType := fun k => match k with
  | 0 => .array .int
  | 1 => .array .int
  | 2 => .array .int
  | 3 => .array .boolean
  | 4 => .array .int
  | 5 => .array .int
  | 6 => .array .int
  | 7 => .array .boolean
  | 8 => .array .boolean
  | 9 => .array .int
  | 10 => .array .char
  | 11 => .array .int
  | 12 => .array .int
  | 13 => .array .int
  | 14 => .array .int
  | 15 => .int
  | 16 => .array .int
  | 17 => .int
  | 18 => .boolean
  | 19 => .int
  | _ => .int
abbrev wsX50 : List Cond := u_ws RX5 TX5 21
theorem nmX5 : ∀ a, a < 21 → ∀ b, b < 21 → a ≠ b → (TX5 a).2.1 ≠ (TX5 b).2.1 := by decide +kernel
theorem tyX5_ok : ∀ k, k < 21 → parseFieldDescriptor (TX5 k).2.2.1 = some (tyX5 k) := by decide +kernel
abbrev cX5_init : ByteArray := prog_7_method_1_code
def yX5_init : MethodName := ⟨RX5, "<init>", "()V"⟩
abbrev cX5_thrown : ByteArray := prog_7_method_2_code
def yX5_thrown : MethodName := ⟨RX5, "thrown", "()I"⟩
abbrev cX5_refused : ByteArray := prog_7_method_3_code
def yX5_refused : MethodName := ⟨RX5, "refused", "(I)Z"⟩
abbrev cX5_in : ByteArray := prog_7_method_4_code
def yX5_in : MethodName := ⟨RX5, "in", "(III)Z"⟩
abbrev cX5_isMap : ByteArray := prog_7_method_5_code
def yX5_isMap : MethodName := ⟨RX5, "isMap", "(I)Z"⟩
abbrev cX5_isView : ByteArray := prog_7_method_6_code
def yX5_isView : MethodName := ⟨RX5, "isView", "(I)Z"⟩
abbrev cX5_isHistory : ByteArray := prog_7_method_7_code
def yX5_isHistory : MethodName := ⟨RX5, "isHistory", "(I)Z"⟩
abbrev cX5_isWay : ByteArray := prog_7_method_8_code
def yX5_isWay : MethodName := ⟨RX5, "isWay", "(C)Z"⟩
abbrev cX5_placeOf : ByteArray := prog_7_method_9_code
def yX5_placeOf : MethodName := ⟨RX5, "placeOf", "(II)I"⟩
abbrev cX5_has : ByteArray := prog_7_method_10_code
def yX5_has : MethodName := ⟨RX5, "has", "(II)Z"⟩
abbrev cX5_puts : ByteArray := prog_7_method_11_code
def yX5_puts : MethodName := ⟨RX5, "puts", "(III)V"⟩
abbrev cX5_takes : ByteArray := prog_7_method_12_code
def yX5_takes : MethodName := ⟨RX5, "takes", "(II)V"⟩
abbrev cX5_pollsAt : ByteArray := prog_7_method_13_code
def yX5_pollsAt : MethodName := ⟨RX5, "pollsAt", "(II)I"⟩
abbrev cX5_isOnSide : ByteArray := prog_7_method_14_code
def yX5_isOnSide : MethodName := ⟨RX5, "isOnSide", "(IIC)Z"⟩
abbrev cX5_nearAt : ByteArray := prog_7_method_15_code
def yX5_nearAt : MethodName := ⟨RX5, "nearAt", "(IIIIC)I"⟩
abbrev cX5_put : ByteArray := prog_7_method_16_code
def yX5_put : MethodName := ⟨RX5, "put", "(III)I"⟩
abbrev cX5_value : ByteArray := prog_7_method_17_code
def yX5_value : MethodName := ⟨RX5, "value", "(II)I"⟩
abbrev cX5_remove : ByteArray := prog_7_method_18_code
def yX5_remove : MethodName := ⟨RX5, "remove", "(II)I"⟩
abbrev cX5_near : ByteArray := prog_7_method_19_code
def yX5_near : MethodName := ⟨RX5, "near", "(IIC)I"⟩
abbrev cX5_end : ByteArray := prog_7_method_20_code
def yX5_end : MethodName := ⟨RX5, "end", "(IZ)I"⟩
abbrev cX5_poll : ByteArray := prog_7_method_21_code
def yX5_poll : MethodName := ⟨RX5, "poll", "(IZ)I"⟩
abbrev cX5_polled : ByteArray := prog_7_method_22_code
def yX5_polled : MethodName := ⟨RX5, "polled", "()I"⟩
abbrev cX5_drain : ByteArray := prog_7_method_23_code
def yX5_drain : MethodName := ⟨RX5, "drain", "(IZ)I"⟩
abbrev cX5_drained : ByteArray := prog_7_method_24_code
def yX5_drained : MethodName := ⟨RX5, "drained", "(I)I"⟩
abbrev cX5_size : ByteArray := prog_7_method_25_code
def yX5_size : MethodName := ⟨RX5, "size", "(I)I"⟩
abbrev cX5_keyAt : ByteArray := prog_7_method_26_code
def yX5_keyAt : MethodName := ⟨RX5, "keyAt", "(IIZ)I"⟩
abbrev cX5_mark : ByteArray := prog_7_method_27_code
def yX5_mark : MethodName := ⟨RX5, "mark", "(I)I"⟩
abbrev cX5_isLike : ByteArray := prog_7_method_28_code
def yX5_isLike : MethodName := ⟨RX5, "isLike", "(II)Z"⟩
abbrev cX5_isIn : ByteArray := prog_7_method_29_code
def yX5_isIn : MethodName := ⟨RX5, "isIn", "(II)Z"⟩
abbrev cX5_firstOf : ByteArray := prog_7_method_30_code
def yX5_firstOf : MethodName := ⟨RX5, "firstOf", "(I)I"⟩
abbrev cX5_behindOf : ByteArray := prog_7_method_31_code
def yX5_behindOf : MethodName := ⟨RX5, "behindOf", "(I)I"⟩
abbrev cX5_manyOf : ByteArray := prog_7_method_32_code
def yX5_manyOf : MethodName := ⟨RX5, "manyOf", "(I)I"⟩
abbrev cX5_open : ByteArray := prog_7_method_33_code
def yX5_open : MethodName := ⟨RX5, "open", "(IIIZIZ)I"⟩
abbrev cX5_cut : ByteArray := prog_7_method_34_code
def yX5_cut : MethodName := ⟨RX5, "cut", "(IIZIZ)I"⟩
abbrev cX5_viewPut : ByteArray := prog_7_method_35_code
def yX5_viewPut : MethodName := ⟨RX5, "viewPut", "(III)I"⟩
abbrev cX5_viewRemove : ByteArray := prog_7_method_36_code
def yX5_viewRemove : MethodName := ⟨RX5, "viewRemove", "(II)Z"⟩
abbrev cX5_viewNearAt : ByteArray := prog_7_method_37_code
def yX5_viewNearAt : MethodName := ⟨RX5, "viewNearAt", "(IIC)I"⟩
abbrev cX5_viewNear : ByteArray := prog_7_method_38_code
def yX5_viewNear : MethodName := ⟨RX5, "viewNear", "(IIC)I"⟩
abbrev cX5_viewEnd : ByteArray := prog_7_method_39_code
def yX5_viewEnd : MethodName := ⟨RX5, "viewEnd", "(IZ)I"⟩
abbrev cX5_viewPoll : ByteArray := prog_7_method_40_code
def yX5_viewPoll : MethodName := ⟨RX5, "viewPoll", "(IZ)I"⟩
abbrev cX5_viewClear : ByteArray := prog_7_method_41_code
def yX5_viewClear : MethodName := ⟨RX5, "viewClear", "(I)I"⟩
abbrev cX5_viewSize : ByteArray := prog_7_method_42_code
def yX5_viewSize : MethodName := ⟨RX5, "viewSize", "(I)I"⟩
abbrev cX5_lies : ByteArray := prog_7_method_43_code
def yX5_lies : MethodName := ⟨RX5, "lies", "(II)Z"⟩
abbrev cX5_step : ByteArray := prog_7_method_44_code
def yX5_step : MethodName := ⟨RX5, "step", "(ICII)I"⟩
abbrev cX5_adds : ByteArray := prog_7_method_45_code
def yX5_adds : MethodName := ⟨RX5, "adds", "(ICII)V"⟩
abbrev cX5_forget : ByteArray := prog_7_method_46_code
def yX5_forget : MethodName := ⟨RX5, "forget", "(I)I"⟩
abbrev cX5_does : ByteArray := prog_7_method_47_code
def yX5_does : MethodName := ⟨RX5, "does", "(II)Z"⟩
abbrev cX5_gathers : ByteArray := prog_7_method_48_code
def yX5_gathers : MethodName := ⟨RX5, "gathers", "(II)V"⟩
abbrev cX5_isTooMuch : ByteArray := prog_7_method_49_code
def yX5_isTooMuch : MethodName := ⟨RX5, "isTooMuch", "(III)Z"⟩
abbrev cX5_play : ByteArray := prog_7_method_50_code
def yX5_play : MethodName := ⟨RX5, "play", "(II)I"⟩
abbrev cX5_playBoth : ByteArray := prog_7_method_51_code
def yX5_playBoth : MethodName := ⟨RX5, "playBoth", "(IIII)I"⟩
abbrev cX5_hasKey : ByteArray := prog_7_method_52_code
def yX5_hasKey : MethodName := ⟨RX5, "hasKey", "(II)Z"⟩
abbrev cX5_meet : ByteArray := prog_7_method_53_code
def yX5_meet : MethodName := ⟨RX5, "meet", "(II)I"⟩
abbrev cX5_opposite : ByteArray := prog_7_method_54_code
def yX5_opposite : MethodName := ⟨RX5, "opposite", "(III)I"⟩
abbrev cX5_manyTogether : ByteArray := prog_7_method_55_code
def yX5_manyTogether : MethodName := ⟨RX5, "manyTogether", "(II)I"⟩
abbrev cX5_combine : ByteArray := prog_7_method_56_code
def yX5_combine : MethodName := ⟨RX5, "combine", "(IIC)I"⟩
abbrev cX5_fullShare : ByteArray := prog_7_method_57_code
def yX5_fullShare : MethodName := ⟨RX5, "fullShare", "(I)F"⟩
abbrev cX5_meanKey : ByteArray := prog_7_method_58_code
def yX5_meanKey : MethodName := ⟨RX5, "meanKey", "(I)D"⟩
abbrev cX5_checksum : ByteArray := prog_7_method_59_code
def yX5_checksum : MethodName := ⟨RX5, "checksum", "()J"⟩
abbrev cX5_isSound : ByteArray := prog_7_method_60_code
def yX5_isSound : MethodName := ⟨RX5, "isSound", "()Z"⟩
def RJx145de : String := "java/io/Serializable"
def TJx145de : u_T := fun k => match k with
  | _ => ("", "", "", false)
def tyJx145de : Nat → FieldType := fun k => match k with
  | _ => .int
abbrev wsJx145de0 : List Cond := u_ws RJx145de TJx145de 0
theorem nmJx145de : ∀ a, a < 0 → ∀ b, b < 0 → a ≠ b → (TJx145de a).2.1 ≠ (TJx145de b).2.1 := by decide +kernel
theorem tyJx145de_ok : ∀ k, k < 0 → parseFieldDescriptor (TJx145de k).2.2.1 = some (tyJx145de k) := by decide +kernel
def RJx00060 : String := "java/lang/ArrayIndexOutOfBoundsException"
def TJx00060 : u_T := fun k => match k with
  | 0 => ("java/lang/Throwable", "backtrace", "Ljava/lang/Object;", false)
  | 1 => ("java/lang/Throwable", "detailMessage", "Ljava/lang/String;", false)
  | 2 => ("java/lang/Throwable", "cause", "Ljava/lang/Throwable;", false)
  | 3 => ("java/lang/Throwable", "stackTrace", "[Ljava/lang/StackTraceElement;", false)
  | 4 => ("java/lang/Throwable", "depth", "I", false)
  | _ => ("java/lang/Throwable", "suppressedExceptions", "Ljava/util/List;", false)
def tyJx00060 : Nat → FieldType := fun k => match k with
  | 0 => .object "java/lang/Object"
  | 1 => .object "java/lang/String"
  | 2 => .object "java/lang/Throwable"
  | 3 => .array (.object "java/lang/StackTraceElement")
  | 4 => .int
  | _ => .object "java/util/List"
abbrev wsJx000600 : List Cond := u_ws RJx00060 TJx00060 6
theorem nmJx00060 : ∀ a, a < 6 → ∀ b, b < 6 → a ≠ b → (TJx00060 a).2.1 ≠ (TJx00060 b).2.1 := by decide +kernel
theorem tyJx00060_ok : ∀ k, k < 6 → parseFieldDescriptor (TJx00060 k).2.2.1 = some (tyJx00060 k) := by decide +kernel
abbrev cJx00060_init_a7421 : ByteArray := prog_10_method_2_code
def yJx00060_init_a7421 : MethodName := ⟨RJx00060, "<init>", "(Ljava/lang/String;)V"⟩
def RJ9 : String := "java/lang/Math"
def TJ9 : u_T := fun k => match k with
  | _ => ("", "", "", false)
def tyJ9 : Nat → FieldType := fun k => match k with
  | _ => .int
abbrev wsJ90 : List Cond := u_ws RJ9 TJ9 0
theorem nmJ9 : ∀ a, a < 0 → ∀ b, b < 0 → a ≠ b → (TJ9 a).2.1 ≠ (TJ9 b).2.1 := by decide +kernel
theorem tyJ9_ok : ∀ k, k < 0 → parseFieldDescriptor (TJ9 k).2.2.1 = some (tyJ9 k) := by decide +kernel
abbrev cJ9_max_7cf53 : ByteArray := prog_15_method_65_code
def yJ9_max_7cf53 : MethodName := ⟨RJ9, "max", "(II)I"⟩
abbrev cJ9_min_7cf53 : ByteArray := prog_15_method_69_code
def yJ9_min_7cf53 : MethodName := ⟨RJ9, "min", "(II)I"⟩
def RJ0 : String := "java/lang/String"
def TJ0 : u_T := fun k => match k with
  | 0 => ("java/lang/String", "value", "[B", true)
  | _ => ("java/lang/String", "coder", "B", true)
def tyJ0 : Nat → FieldType := fun k => match k with
  | 0 => .array .byte
  | _ => .byte
abbrev wsJ00 : List Cond := u_ws RJ0 TJ0 2
theorem nmJ0 : ∀ a, a < 2 → ∀ b, b < 2 → a ≠ b → (TJ0 a).2.1 ≠ (TJ0 b).2.1 := by decide +kernel
theorem tyJ0_ok : ∀ k, k < 2 → parseFieldDescriptor (TJ0 k).2.2.1 = some (tyJ0 k) := by decide +kernel
def RJ10 : String := "java/lang/System"
def TJ10 : u_T := fun k => match k with
  | _ => ("", "", "", false)
def tyJ10 : Nat → FieldType := fun k => match k with
  | _ => .int
abbrev wsJ100 : List Cond := u_ws RJ10 TJ10 0
theorem nmJ10 : ∀ a, a < 0 → ∀ b, b < 0 → a ≠ b → (TJ10 a).2.1 ≠ (TJ10 b).2.1 := by decide +kernel
theorem tyJ10_ok : ∀ k, k < 0 → parseFieldDescriptor (TJ10 k).2.2.1 = some (tyJ10 k) := by decide +kernel
def RL : String := "SpanwardenLaw"
abbrev cL_put : ByteArray := method_3_code
def yL_put : MethodName := ⟨RL, "put", "(LSpanwarden;III[J)I"⟩
abbrev cL_value : ByteArray := method_4_code
def yL_value : MethodName := ⟨RL, "value", "(LSpanwarden;II[J)I"⟩
abbrev cL_remove : ByteArray := method_5_code
def yL_remove : MethodName := ⟨RL, "remove", "(LSpanwarden;II[J)I"⟩
abbrev cL_near : ByteArray := method_6_code
def yL_near : MethodName := ⟨RL, "near", "(LSpanwarden;IIC[J)I"⟩
abbrev cL_end : ByteArray := method_7_code
def yL_end : MethodName := ⟨RL, "end", "(LSpanwarden;IZ[J)I"⟩
abbrev cL_poll : ByteArray := method_8_code
def yL_poll : MethodName := ⟨RL, "poll", "(LSpanwarden;IZ[J)I"⟩
abbrev cL_polled : ByteArray := method_9_code
def yL_polled : MethodName := ⟨RL, "polled", "(LSpanwarden;[J)I"⟩
abbrev cL_drain : ByteArray := method_10_code
def yL_drain : MethodName := ⟨RL, "drain", "(LSpanwarden;IZ[J)I"⟩
abbrev cL_drained : ByteArray := method_11_code
def yL_drained : MethodName := ⟨RL, "drained", "(LSpanwarden;I[J)I"⟩
abbrev cL_size : ByteArray := method_12_code
def yL_size : MethodName := ⟨RL, "size", "(LSpanwarden;I[J)I"⟩
abbrev cL_keyAt : ByteArray := method_13_code
def yL_keyAt : MethodName := ⟨RL, "keyAt", "(LSpanwarden;IIZ[J)I"⟩
abbrev cL_mark : ByteArray := method_14_code
def yL_mark : MethodName := ⟨RL, "mark", "(LSpanwarden;I[J)I"⟩
abbrev cL_isLike : ByteArray := method_15_code
def yL_isLike : MethodName := ⟨RL, "isLike", "(LSpanwarden;II[J)I"⟩
abbrev cL_open : ByteArray := method_16_code
def yL_open : MethodName := ⟨RL, "open", "(LSpanwarden;IIIZIZ[J)I"⟩
abbrev cL_cut : ByteArray := method_17_code
def yL_cut : MethodName := ⟨RL, "cut", "(LSpanwarden;IIZIZ[J)I"⟩
abbrev cL_viewPut : ByteArray := method_18_code
def yL_viewPut : MethodName := ⟨RL, "viewPut", "(LSpanwarden;III[J)I"⟩
abbrev cL_viewRemove : ByteArray := method_19_code
def yL_viewRemove : MethodName := ⟨RL, "viewRemove", "(LSpanwarden;II[J)I"⟩
abbrev cL_viewNear : ByteArray := method_20_code
def yL_viewNear : MethodName := ⟨RL, "viewNear", "(LSpanwarden;IIC[J)I"⟩
abbrev cL_viewEnd : ByteArray := method_21_code
def yL_viewEnd : MethodName := ⟨RL, "viewEnd", "(LSpanwarden;IZ[J)I"⟩
abbrev cL_viewPoll : ByteArray := method_22_code
def yL_viewPoll : MethodName := ⟨RL, "viewPoll", "(LSpanwarden;IZ[J)I"⟩
abbrev cL_viewClear : ByteArray := method_23_code
def yL_viewClear : MethodName := ⟨RL, "viewClear", "(LSpanwarden;I[J)I"⟩
abbrev cL_viewSize : ByteArray := method_24_code
def yL_viewSize : MethodName := ⟨RL, "viewSize", "(LSpanwarden;I[J)I"⟩
abbrev cL_lies : ByteArray := method_25_code
def yL_lies : MethodName := ⟨RL, "lies", "(LSpanwarden;II[J)I"⟩
abbrev cL_step : ByteArray := method_26_code
def yL_step : MethodName := ⟨RL, "step", "(LSpanwarden;ICII[J)I"⟩
abbrev cL_forget : ByteArray := method_27_code
def yL_forget : MethodName := ⟨RL, "forget", "(LSpanwarden;I[J)I"⟩
abbrev cL_play : ByteArray := method_28_code
def yL_play : MethodName := ⟨RL, "play", "(LSpanwarden;II[J)I"⟩
abbrev cL_playBoth : ByteArray := method_29_code
def yL_playBoth : MethodName := ⟨RL, "playBoth", "(LSpanwarden;IIII[J)I"⟩
abbrev cL_meet : ByteArray := method_30_code
def yL_meet : MethodName := ⟨RL, "meet", "(LSpanwarden;II[J)I"⟩
abbrev cL_opposite : ByteArray := method_31_code
def yL_opposite : MethodName := ⟨RL, "opposite", "(LSpanwarden;III[J)I"⟩
abbrev cL_combine : ByteArray := method_32_code
def yL_combine : MethodName := ⟨RL, "combine", "(LSpanwarden;IIC[J)I"⟩
abbrev cL_fullShare : ByteArray := method_33_code
def yL_fullShare : MethodName := ⟨RL, "fullShare", "(LSpanwarden;I[D)I"⟩
abbrev cL_meanKey : ByteArray := method_34_code
def yL_meanKey : MethodName := ⟨RL, "meanKey", "(LSpanwarden;I[D)I"⟩
abbrev cL_law : ByteArray := code
def yL_law : MethodName := ⟨RL, "law", "([I)Z"⟩
end
section
theorem dX2_init_0 : decode cX2_init 0 = .ok (.aload_n 0, 1) := by decide +kernel
theorem dX2_init_1 : decode cX2_init 1 = .ok (.invokespecial 3, 3) := by decide +kernel
theorem dX2_init_4 : decode cX2_init 4 = .ok (.aload_n 0, 1) := by decide +kernel
theorem dX2_init_5 : decode cX2_init 5 = .ok (.bipush 120, 2) := by decide +kernel
theorem dX2_init_7 : decode cX2_init 7 = .ok (.newarray .int, 2) := by decide +kernel
theorem dX2_init_9 : decode cX2_init 9 = .ok (.putfield 9, 3) := by decide +kernel
theorem dX2_init_12 : decode cX2_init 12 = .ok (.aload_n 0, 1) := by decide +kernel
theorem dX2_init_13 : decode cX2_init 13 = .ok (.bipush 120, 2) := by decide +kernel
theorem dX2_init_15 : decode cX2_init 15 = .ok (.newarray .int, 2) := by decide +kernel
theorem dX2_init_17 : decode cX2_init 17 = .ok (.putfield 15, 3) := by decide +kernel
theorem dX2_init_20 : decode cX2_init 20 = .ok (.return_, 1) := by decide +kernel
theorem dX2_countBelow_0 : decode cX2_countBelow 0 = .ok (.iconst 0, 1) := by decide +kernel
theorem dX2_countBelow_1 : decode cX2_countBelow 1 = .ok (.istore_n 2, 1) := by decide +kernel
theorem dX2_countBelow_2 : decode cX2_countBelow 2 = .ok (.bipush 64, 2) := by decide +kernel
theorem dX2_countBelow_4 : decode cX2_countBelow 4 = .ok (.istore_n 3, 1) := by decide +kernel
theorem dX2_countBelow_5 : decode cX2_countBelow 5 = .ok (.iload_n 3, 1) := by decide +kernel
theorem dX2_countBelow_6 : decode cX2_countBelow 6 = .ok (.ifCond .le 40, 3) := by decide +kernel
theorem dX2_countBelow_9 : decode cX2_countBelow 9 = .ok (.iload_n 2, 1) := by decide +kernel
theorem dX2_countBelow_10 : decode cX2_countBelow 10 = .ok (.iload_n 3, 1) := by decide +kernel
theorem dX2_countBelow_11 : decode cX2_countBelow 11 = .ok (.iadd, 1) := by decide +kernel
theorem dX2_countBelow_12 : decode cX2_countBelow 12 = .ok (.istore 4, 2) := by decide +kernel
theorem dX2_countBelow_14 : decode cX2_countBelow 14 = .ok (.iload 4, 2) := by decide +kernel
theorem dX2_countBelow_16 : decode cX2_countBelow 16 = .ok (.aload_n 0, 1) := by decide +kernel
theorem dX2_countBelow_17 : decode cX2_countBelow 17 = .ok (.getfield 18, 3) := by decide +kernel
theorem dX2_countBelow_20 : decode cX2_countBelow 20 = .ok (.if_icmp .gt 19, 3) := by decide +kernel
theorem dX2_countBelow_23 : decode cX2_countBelow 23 = .ok (.aload_n 0, 1) := by decide +kernel
theorem dX2_countBelow_24 : decode cX2_countBelow 24 = .ok (.getfield 9, 3) := by decide +kernel
theorem dX2_countBelow_27 : decode cX2_countBelow 27 = .ok (.iload 4, 2) := by decide +kernel
theorem dX2_countBelow_29 : decode cX2_countBelow 29 = .ok (.iconst 1, 1) := by decide +kernel
theorem dX2_countBelow_30 : decode cX2_countBelow 30 = .ok (.isub, 1) := by decide +kernel
theorem dX2_countBelow_31 : decode cX2_countBelow 31 = .ok (.iaload, 1) := by decide +kernel
theorem dX2_countBelow_32 : decode cX2_countBelow 32 = .ok (.iload_n 1, 1) := by decide +kernel
theorem dX2_countBelow_33 : decode cX2_countBelow 33 = .ok (.if_icmp .ge 6, 3) := by decide +kernel
theorem dX2_countBelow_36 : decode cX2_countBelow 36 = .ok (.iload 4, 2) := by decide +kernel
theorem dX2_countBelow_38 : decode cX2_countBelow 38 = .ok (.istore_n 2, 1) := by decide +kernel
theorem dX2_countBelow_39 : decode cX2_countBelow 39 = .ok (.iload_n 3, 1) := by decide +kernel
theorem dX2_countBelow_40 : decode cX2_countBelow 40 = .ok (.iconst 1, 1) := by decide +kernel
theorem dX2_countBelow_41 : decode cX2_countBelow 41 = .ok (.ishr, 1) := by decide +kernel
theorem dX2_countBelow_42 : decode cX2_countBelow 42 = .ok (.istore_n 3, 1) := by decide +kernel
theorem dX2_countBelow_43 : decode cX2_countBelow 43 = .ok (.goto (-38), 3) := by decide +kernel
theorem dX2_countBelow_46 : decode cX2_countBelow 46 = .ok (.iload_n 2, 1) := by decide +kernel
theorem dX2_countBelow_47 : decode cX2_countBelow 47 = .ok (.ireturn, 1) := by decide +kernel
theorem dX2_countUpTo_0 : decode cX2_countUpTo 0 = .ok (.aload_n 0, 1) := by decide +kernel
theorem dX2_countUpTo_1 : decode cX2_countUpTo 1 = .ok (.iload_n 1, 1) := by decide +kernel
theorem dX2_countUpTo_2 : decode cX2_countUpTo 2 = .ok (.invokevirtual 22, 3) := by decide +kernel
theorem dX2_countUpTo_5 : decode cX2_countUpTo 5 = .ok (.istore_n 2, 1) := by decide +kernel
theorem dX2_countUpTo_6 : decode cX2_countUpTo 6 = .ok (.iload_n 2, 1) := by decide +kernel
theorem dX2_countUpTo_7 : decode cX2_countUpTo 7 = .ok (.aload_n 0, 1) := by decide +kernel
theorem dX2_countUpTo_8 : decode cX2_countUpTo 8 = .ok (.getfield 18, 3) := by decide +kernel
theorem dX2_countUpTo_11 : decode cX2_countUpTo 11 = .ok (.if_icmp .ge 19, 3) := by decide +kernel
theorem dX2_countUpTo_14 : decode cX2_countUpTo 14 = .ok (.aload_n 0, 1) := by decide +kernel
theorem dX2_countUpTo_15 : decode cX2_countUpTo 15 = .ok (.getfield 9, 3) := by decide +kernel
theorem dX2_countUpTo_18 : decode cX2_countUpTo 18 = .ok (.iload_n 2, 1) := by decide +kernel
theorem dX2_countUpTo_19 : decode cX2_countUpTo 19 = .ok (.iaload, 1) := by decide +kernel
theorem dX2_countUpTo_20 : decode cX2_countUpTo 20 = .ok (.iload_n 1, 1) := by decide +kernel
theorem dX2_countUpTo_21 : decode cX2_countUpTo 21 = .ok (.if_icmp .ne 9, 3) := by decide +kernel
theorem dX2_countUpTo_24 : decode cX2_countUpTo 24 = .ok (.iload_n 2, 1) := by decide +kernel
theorem dX2_countUpTo_25 : decode cX2_countUpTo 25 = .ok (.iconst 1, 1) := by decide +kernel
theorem dX2_countUpTo_26 : decode cX2_countUpTo 26 = .ok (.iadd, 1) := by decide +kernel
theorem dX2_countUpTo_27 : decode cX2_countUpTo 27 = .ok (.goto 4, 3) := by decide +kernel
theorem dX2_countUpTo_30 : decode cX2_countUpTo 30 = .ok (.iload_n 2, 1) := by decide +kernel
theorem dX2_countUpTo_31 : decode cX2_countUpTo 31 = .ok (.ireturn, 1) := by decide +kernel
theorem dX2_placeOf_0 : decode cX2_placeOf 0 = .ok (.aload_n 0, 1) := by decide +kernel
theorem dX2_placeOf_1 : decode cX2_placeOf 1 = .ok (.iload_n 1, 1) := by decide +kernel
theorem dX2_placeOf_2 : decode cX2_placeOf 2 = .ok (.invokevirtual 22, 3) := by decide +kernel
theorem dX2_placeOf_5 : decode cX2_placeOf 5 = .ok (.istore_n 2, 1) := by decide +kernel
theorem dX2_placeOf_6 : decode cX2_placeOf 6 = .ok (.iload_n 2, 1) := by decide +kernel
theorem dX2_placeOf_7 : decode cX2_placeOf 7 = .ok (.aload_n 0, 1) := by decide +kernel
theorem dX2_placeOf_8 : decode cX2_placeOf 8 = .ok (.getfield 18, 3) := by decide +kernel
theorem dX2_placeOf_11 : decode cX2_placeOf 11 = .ok (.if_icmp .ge 17, 3) := by decide +kernel
theorem dX2_placeOf_14 : decode cX2_placeOf 14 = .ok (.aload_n 0, 1) := by decide +kernel
theorem dX2_placeOf_15 : decode cX2_placeOf 15 = .ok (.getfield 9, 3) := by decide +kernel
theorem dX2_placeOf_18 : decode cX2_placeOf 18 = .ok (.iload_n 2, 1) := by decide +kernel
theorem dX2_placeOf_19 : decode cX2_placeOf 19 = .ok (.iaload, 1) := by decide +kernel
theorem dX2_placeOf_20 : decode cX2_placeOf 20 = .ok (.iload_n 1, 1) := by decide +kernel
theorem dX2_placeOf_21 : decode cX2_placeOf 21 = .ok (.if_icmp .ne 7, 3) := by decide +kernel
theorem dX2_placeOf_24 : decode cX2_placeOf 24 = .ok (.iload_n 2, 1) := by decide +kernel
theorem dX2_placeOf_25 : decode cX2_placeOf 25 = .ok (.goto 4, 3) := by decide +kernel
theorem dX2_placeOf_28 : decode cX2_placeOf 28 = .ok (.iconst (-1), 1) := by decide +kernel
theorem dX2_placeOf_29 : decode cX2_placeOf 29 = .ok (.ireturn, 1) := by decide +kernel
theorem dX2_placeNear_0 : decode cX2_placeNear 0 = .ok (.iload_n 2, 1) := by decide +kernel
theorem dX2_placeNear_1 : decode cX2_placeNear 1 = .ok (.bipush 102, 2) := by decide +kernel
theorem dX2_placeNear_3 : decode cX2_placeNear 3 = .ok (.if_icmp .eq 9, 3) := by decide +kernel
theorem dX2_placeNear_6 : decode cX2_placeNear 6 = .ok (.iload_n 2, 1) := by decide +kernel
theorem dX2_placeNear_7 : decode cX2_placeNear 7 = .ok (.bipush 104, 2) := by decide +kernel
theorem dX2_placeNear_9 : decode cX2_placeNear 9 = .ok (.if_icmp .ne 11, 3) := by decide +kernel
theorem dX2_placeNear_12 : decode cX2_placeNear 12 = .ok (.aload_n 0, 1) := by decide +kernel
theorem dX2_placeNear_13 : decode cX2_placeNear 13 = .ok (.iload_n 1, 1) := by decide +kernel
theorem dX2_placeNear_14 : decode cX2_placeNear 14 = .ok (.invokevirtual 26, 3) := by decide +kernel
theorem dX2_placeNear_17 : decode cX2_placeNear 17 = .ok (.goto 8, 3) := by decide +kernel
theorem dX2_placeNear_20 : decode cX2_placeNear 20 = .ok (.aload_n 0, 1) := by decide +kernel
theorem dX2_placeNear_21 : decode cX2_placeNear 21 = .ok (.iload_n 1, 1) := by decide +kernel
theorem dX2_placeNear_22 : decode cX2_placeNear 22 = .ok (.invokevirtual 22, 3) := by decide +kernel
theorem dX2_placeNear_25 : decode cX2_placeNear 25 = .ok (.istore 5, 2) := by decide +kernel
theorem dX2_placeNear_27 : decode cX2_placeNear 27 = .ok (.iload_n 2, 1) := by decide +kernel
theorem dX2_placeNear_28 : decode cX2_placeNear 28 = .ok (.bipush 102, 2) := by decide +kernel
theorem dX2_placeNear_30 : decode cX2_placeNear 30 = .ok (.if_icmp .eq 9, 3) := by decide +kernel
theorem dX2_placeNear_33 : decode cX2_placeNear 33 = .ok (.iload_n 2, 1) := by decide +kernel
theorem dX2_placeNear_34 : decode cX2_placeNear 34 = .ok (.bipush 108, 2) := by decide +kernel
theorem dX2_placeNear_36 : decode cX2_placeNear 36 = .ok (.if_icmp .ne 27, 3) := by decide +kernel
theorem dX2_placeNear_39 : decode cX2_placeNear 39 = .ok (.iload 5, 2) := by decide +kernel
theorem dX2_placeNear_41 : decode cX2_placeNear 41 = .ok (.iload 4, 2) := by decide +kernel
theorem dX2_placeNear_43 : decode cX2_placeNear 43 = .ok (.invokestatic 29, 3) := by decide +kernel
theorem dX2_placeNear_46 : decode cX2_placeNear 46 = .ok (.iconst 1, 1) := by decide +kernel
theorem dX2_placeNear_47 : decode cX2_placeNear 47 = .ok (.isub, 1) := by decide +kernel
theorem dX2_placeNear_48 : decode cX2_placeNear 48 = .ok (.istore 6, 2) := by decide +kernel
theorem dX2_placeNear_50 : decode cX2_placeNear 50 = .ok (.iload 6, 2) := by decide +kernel
theorem dX2_placeNear_52 : decode cX2_placeNear 52 = .ok (.iload_n 3, 1) := by decide +kernel
theorem dX2_placeNear_53 : decode cX2_placeNear 53 = .ok (.if_icmp .lt 8, 3) := by decide +kernel
theorem dX2_placeNear_56 : decode cX2_placeNear 56 = .ok (.iload 6, 2) := by decide +kernel
theorem dX2_placeNear_58 : decode cX2_placeNear 58 = .ok (.goto 4, 3) := by decide +kernel
theorem dX2_placeNear_61 : decode cX2_placeNear 61 = .ok (.iconst (-1), 1) := by decide +kernel
theorem dX2_placeNear_62 : decode cX2_placeNear 62 = .ok (.ireturn, 1) := by decide +kernel
theorem dX2_placeNear_63 : decode cX2_placeNear 63 = .ok (.iload 5, 2) := by decide +kernel
theorem dX2_placeNear_65 : decode cX2_placeNear 65 = .ok (.iload_n 3, 1) := by decide +kernel
theorem dX2_placeNear_66 : decode cX2_placeNear 66 = .ok (.invokestatic 35, 3) := by decide +kernel
theorem dX2_placeNear_69 : decode cX2_placeNear 69 = .ok (.istore 6, 2) := by decide +kernel
theorem dX2_placeNear_71 : decode cX2_placeNear 71 = .ok (.iload 6, 2) := by decide +kernel
theorem dX2_placeNear_73 : decode cX2_placeNear 73 = .ok (.iload 4, 2) := by decide +kernel
theorem dX2_placeNear_75 : decode cX2_placeNear 75 = .ok (.if_icmp .ge 8, 3) := by decide +kernel
theorem dX2_placeNear_78 : decode cX2_placeNear 78 = .ok (.iload 6, 2) := by decide +kernel
theorem dX2_placeNear_80 : decode cX2_placeNear 80 = .ok (.goto 4, 3) := by decide +kernel
theorem dX2_placeNear_83 : decode cX2_placeNear 83 = .ok (.iconst (-1), 1) := by decide +kernel
theorem dX2_placeNear_84 : decode cX2_placeNear 84 = .ok (.ireturn, 1) := by decide +kernel
theorem dX2_set_0 : decode cX2_set 0 = .ok (.aload_n 0, 1) := by decide +kernel
theorem dX2_set_1 : decode cX2_set 1 = .ok (.iload_n 1, 1) := by decide +kernel
theorem dX2_set_2 : decode cX2_set 2 = .ok (.invokevirtual 22, 3) := by decide +kernel
theorem dX2_set_5 : decode cX2_set 5 = .ok (.istore_n 3, 1) := by decide +kernel
theorem dX2_set_6 : decode cX2_set 6 = .ok (.iload_n 3, 1) := by decide +kernel
theorem dX2_set_7 : decode cX2_set 7 = .ok (.aload_n 0, 1) := by decide +kernel
theorem dX2_set_8 : decode cX2_set 8 = .ok (.getfield 18, 3) := by decide +kernel
theorem dX2_set_11 : decode cX2_set 11 = .ok (.if_icmp .ge 40, 3) := by decide +kernel
theorem dX2_set_14 : decode cX2_set 14 = .ok (.aload_n 0, 1) := by decide +kernel
theorem dX2_set_15 : decode cX2_set 15 = .ok (.getfield 9, 3) := by decide +kernel
theorem dX2_set_18 : decode cX2_set 18 = .ok (.iload_n 3, 1) := by decide +kernel
theorem dX2_set_19 : decode cX2_set 19 = .ok (.iaload, 1) := by decide +kernel
theorem dX2_set_20 : decode cX2_set 20 = .ok (.iload_n 1, 1) := by decide +kernel
theorem dX2_set_21 : decode cX2_set 21 = .ok (.if_icmp .ne 30, 3) := by decide +kernel
theorem dX2_set_24 : decode cX2_set 24 = .ok (.aload_n 0, 1) := by decide +kernel
theorem dX2_set_25 : decode cX2_set 25 = .ok (.getfield 15, 3) := by decide +kernel
theorem dX2_set_28 : decode cX2_set 28 = .ok (.iload_n 3, 1) := by decide +kernel
theorem dX2_set_29 : decode cX2_set 29 = .ok (.iaload, 1) := by decide +kernel
theorem dX2_set_30 : decode cX2_set 30 = .ok (.iload_n 2, 1) := by decide +kernel
theorem dX2_set_31 : decode cX2_set 31 = .ok (.if_icmp .eq 7, 3) := by decide +kernel
theorem dX2_set_34 : decode cX2_set 34 = .ok (.iconst 1, 1) := by decide +kernel
theorem dX2_set_35 : decode cX2_set 35 = .ok (.goto 4, 3) := by decide +kernel
theorem dX2_set_38 : decode cX2_set 38 = .ok (.iconst 0, 1) := by decide +kernel
theorem dX2_set_39 : decode cX2_set 39 = .ok (.istore 4, 2) := by decide +kernel
theorem dX2_set_41 : decode cX2_set 41 = .ok (.aload_n 0, 1) := by decide +kernel
theorem dX2_set_42 : decode cX2_set 42 = .ok (.getfield 15, 3) := by decide +kernel
theorem dX2_set_45 : decode cX2_set 45 = .ok (.iload_n 3, 1) := by decide +kernel
theorem dX2_set_46 : decode cX2_set 46 = .ok (.iload_n 2, 1) := by decide +kernel
theorem dX2_set_47 : decode cX2_set 47 = .ok (.iastore, 1) := by decide +kernel
theorem dX2_set_48 : decode cX2_set 48 = .ok (.iload 4, 2) := by decide +kernel
theorem dX2_set_50 : decode cX2_set 50 = .ok (.ireturn, 1) := by decide +kernel
theorem dX2_set_51 : decode cX2_set 51 = .ok (.aload_n 0, 1) := by decide +kernel
theorem dX2_set_52 : decode cX2_set 52 = .ok (.getfield 18, 3) := by decide +kernel
theorem dX2_set_55 : decode cX2_set 55 = .ok (.aload_n 0, 1) := by decide +kernel
theorem dX2_set_56 : decode cX2_set 56 = .ok (.getfield 9, 3) := by decide +kernel
theorem dX2_set_59 : decode cX2_set 59 = .ok (.arraylength, 1) := by decide +kernel
theorem dX2_set_60 : decode cX2_set 60 = .ok (.if_icmp .lt 5, 3) := by decide +kernel
theorem dX2_set_63 : decode cX2_set 63 = .ok (.iconst 0, 1) := by decide +kernel
theorem dX2_set_64 : decode cX2_set 64 = .ok (.ireturn, 1) := by decide +kernel
theorem dX2_set_65 : decode cX2_set 65 = .ok (.aload_n 0, 1) := by decide +kernel
theorem dX2_set_66 : decode cX2_set 66 = .ok (.getfield 9, 3) := by decide +kernel
theorem dX2_set_69 : decode cX2_set 69 = .ok (.iload_n 3, 1) := by decide +kernel
theorem dX2_set_70 : decode cX2_set 70 = .ok (.aload_n 0, 1) := by decide +kernel
theorem dX2_set_71 : decode cX2_set 71 = .ok (.getfield 9, 3) := by decide +kernel
theorem dX2_set_74 : decode cX2_set 74 = .ok (.iload_n 3, 1) := by decide +kernel
theorem dX2_set_75 : decode cX2_set 75 = .ok (.iconst 1, 1) := by decide +kernel
theorem dX2_set_76 : decode cX2_set 76 = .ok (.iadd, 1) := by decide +kernel
theorem dX2_set_77 : decode cX2_set 77 = .ok (.aload_n 0, 1) := by decide +kernel
theorem dX2_set_78 : decode cX2_set 78 = .ok (.getfield 18, 3) := by decide +kernel
theorem dX2_set_81 : decode cX2_set 81 = .ok (.iload_n 3, 1) := by decide +kernel
theorem dX2_set_82 : decode cX2_set 82 = .ok (.isub, 1) := by decide +kernel
theorem dX2_set_83 : decode cX2_set 83 = .ok (.invokestatic 38, 3) := by decide +kernel
theorem dX2_set_86 : decode cX2_set 86 = .ok (.aload_n 0, 1) := by decide +kernel
theorem dX2_set_87 : decode cX2_set 87 = .ok (.getfield 15, 3) := by decide +kernel
theorem dX2_set_90 : decode cX2_set 90 = .ok (.iload_n 3, 1) := by decide +kernel
theorem dX2_set_91 : decode cX2_set 91 = .ok (.aload_n 0, 1) := by decide +kernel
theorem dX2_set_92 : decode cX2_set 92 = .ok (.getfield 15, 3) := by decide +kernel
theorem dX2_set_95 : decode cX2_set 95 = .ok (.iload_n 3, 1) := by decide +kernel
theorem dX2_set_96 : decode cX2_set 96 = .ok (.iconst 1, 1) := by decide +kernel
theorem dX2_set_97 : decode cX2_set 97 = .ok (.iadd, 1) := by decide +kernel
theorem dX2_set_98 : decode cX2_set 98 = .ok (.aload_n 0, 1) := by decide +kernel
theorem dX2_set_99 : decode cX2_set 99 = .ok (.getfield 18, 3) := by decide +kernel
theorem dX2_set_102 : decode cX2_set 102 = .ok (.iload_n 3, 1) := by decide +kernel
theorem dX2_set_103 : decode cX2_set 103 = .ok (.isub, 1) := by decide +kernel
theorem dX2_set_104 : decode cX2_set 104 = .ok (.invokestatic 38, 3) := by decide +kernel
theorem dX2_set_107 : decode cX2_set 107 = .ok (.aload_n 0, 1) := by decide +kernel
theorem dX2_set_108 : decode cX2_set 108 = .ok (.getfield 9, 3) := by decide +kernel
theorem dX2_set_111 : decode cX2_set 111 = .ok (.iload_n 3, 1) := by decide +kernel
theorem dX2_set_112 : decode cX2_set 112 = .ok (.iload_n 1, 1) := by decide +kernel
theorem dX2_set_113 : decode cX2_set 113 = .ok (.iastore, 1) := by decide +kernel
theorem dX2_set_114 : decode cX2_set 114 = .ok (.aload_n 0, 1) := by decide +kernel
theorem dX2_set_115 : decode cX2_set 115 = .ok (.getfield 15, 3) := by decide +kernel
theorem dX2_set_118 : decode cX2_set 118 = .ok (.iload_n 3, 1) := by decide +kernel
theorem dX2_set_119 : decode cX2_set 119 = .ok (.iload_n 2, 1) := by decide +kernel
theorem dX2_set_120 : decode cX2_set 120 = .ok (.iastore, 1) := by decide +kernel
theorem dX2_set_121 : decode cX2_set 121 = .ok (.aload_n 0, 1) := by decide +kernel
theorem dX2_set_122 : decode cX2_set 122 = .ok (.dup, 1) := by decide +kernel
theorem dX2_set_123 : decode cX2_set 123 = .ok (.getfield 18, 3) := by decide +kernel
theorem dX2_set_126 : decode cX2_set 126 = .ok (.iconst 1, 1) := by decide +kernel
theorem dX2_set_127 : decode cX2_set 127 = .ok (.iadd, 1) := by decide +kernel
theorem dX2_set_128 : decode cX2_set 128 = .ok (.putfield 18, 3) := by decide +kernel
theorem dX2_set_131 : decode cX2_set 131 = .ok (.iconst 1, 1) := by decide +kernel
theorem dX2_set_132 : decode cX2_set 132 = .ok (.ireturn, 1) := by decide +kernel
theorem dX2_drop_0 : decode cX2_drop 0 = .ok (.aload_n 0, 1) := by decide +kernel
theorem dX2_drop_1 : decode cX2_drop 1 = .ok (.iload_n 1, 1) := by decide +kernel
theorem dX2_drop_2 : decode cX2_drop 2 = .ok (.invokevirtual 22, 3) := by decide +kernel
theorem dX2_drop_5 : decode cX2_drop 5 = .ok (.istore_n 2, 1) := by decide +kernel
theorem dX2_drop_6 : decode cX2_drop 6 = .ok (.iload_n 2, 1) := by decide +kernel
theorem dX2_drop_7 : decode cX2_drop 7 = .ok (.aload_n 0, 1) := by decide +kernel
theorem dX2_drop_8 : decode cX2_drop 8 = .ok (.getfield 18, 3) := by decide +kernel
theorem dX2_drop_11 : decode cX2_drop 11 = .ok (.if_icmp .ge 13, 3) := by decide +kernel
theorem dX2_drop_14 : decode cX2_drop 14 = .ok (.aload_n 0, 1) := by decide +kernel
theorem dX2_drop_15 : decode cX2_drop 15 = .ok (.getfield 9, 3) := by decide +kernel
theorem dX2_drop_18 : decode cX2_drop 18 = .ok (.iload_n 2, 1) := by decide +kernel
theorem dX2_drop_19 : decode cX2_drop 19 = .ok (.iaload, 1) := by decide +kernel
theorem dX2_drop_20 : decode cX2_drop 20 = .ok (.iload_n 1, 1) := by decide +kernel
theorem dX2_drop_21 : decode cX2_drop 21 = .ok (.if_icmp .eq 5, 3) := by decide +kernel
theorem dX2_drop_24 : decode cX2_drop 24 = .ok (.iconst 0, 1) := by decide +kernel
theorem dX2_drop_25 : decode cX2_drop 25 = .ok (.ireturn, 1) := by decide +kernel
theorem dX2_drop_26 : decode cX2_drop 26 = .ok (.aload_n 0, 1) := by decide +kernel
theorem dX2_drop_27 : decode cX2_drop 27 = .ok (.iload_n 2, 1) := by decide +kernel
theorem dX2_drop_28 : decode cX2_drop 28 = .ok (.iload_n 2, 1) := by decide +kernel
theorem dX2_drop_29 : decode cX2_drop 29 = .ok (.iconst 1, 1) := by decide +kernel
theorem dX2_drop_30 : decode cX2_drop 30 = .ok (.iadd, 1) := by decide +kernel
theorem dX2_drop_31 : decode cX2_drop 31 = .ok (.invokevirtual 44, 3) := by decide +kernel
theorem dX2_drop_34 : decode cX2_drop 34 = .ok (.iconst 1, 1) := by decide +kernel
theorem dX2_drop_35 : decode cX2_drop 35 = .ok (.ireturn, 1) := by decide +kernel
theorem dX2_dropPlaces_0 : decode cX2_dropPlaces 0 = .ok (.iload_n 1, 1) := by decide +kernel
theorem dX2_dropPlaces_1 : decode cX2_dropPlaces 1 = .ok (.ifCond .lt 16, 3) := by decide +kernel
theorem dX2_dropPlaces_4 : decode cX2_dropPlaces 4 = .ok (.iload_n 1, 1) := by decide +kernel
theorem dX2_dropPlaces_5 : decode cX2_dropPlaces 5 = .ok (.iload_n 2, 1) := by decide +kernel
theorem dX2_dropPlaces_6 : decode cX2_dropPlaces 6 = .ok (.if_icmp .ge 11, 3) := by decide +kernel
theorem dX2_dropPlaces_9 : decode cX2_dropPlaces 9 = .ok (.iload_n 2, 1) := by decide +kernel
theorem dX2_dropPlaces_10 : decode cX2_dropPlaces 10 = .ok (.aload_n 0, 1) := by decide +kernel
theorem dX2_dropPlaces_11 : decode cX2_dropPlaces 11 = .ok (.getfield 18, 3) := by decide +kernel
theorem dX2_dropPlaces_14 : decode cX2_dropPlaces 14 = .ok (.if_icmp .le 4, 3) := by decide +kernel
theorem dX2_dropPlaces_17 : decode cX2_dropPlaces 17 = .ok (.return_, 1) := by decide +kernel
theorem dX2_dropPlaces_18 : decode cX2_dropPlaces 18 = .ok (.aload_n 0, 1) := by decide +kernel
theorem dX2_dropPlaces_19 : decode cX2_dropPlaces 19 = .ok (.getfield 9, 3) := by decide +kernel
theorem dX2_dropPlaces_22 : decode cX2_dropPlaces 22 = .ok (.iload_n 2, 1) := by decide +kernel
theorem dX2_dropPlaces_23 : decode cX2_dropPlaces 23 = .ok (.aload_n 0, 1) := by decide +kernel
theorem dX2_dropPlaces_24 : decode cX2_dropPlaces 24 = .ok (.getfield 9, 3) := by decide +kernel
theorem dX2_dropPlaces_27 : decode cX2_dropPlaces 27 = .ok (.iload_n 1, 1) := by decide +kernel
theorem dX2_dropPlaces_28 : decode cX2_dropPlaces 28 = .ok (.aload_n 0, 1) := by decide +kernel
theorem dX2_dropPlaces_29 : decode cX2_dropPlaces 29 = .ok (.getfield 18, 3) := by decide +kernel
theorem dX2_dropPlaces_32 : decode cX2_dropPlaces 32 = .ok (.iload_n 2, 1) := by decide +kernel
theorem dX2_dropPlaces_33 : decode cX2_dropPlaces 33 = .ok (.isub, 1) := by decide +kernel
theorem dX2_dropPlaces_34 : decode cX2_dropPlaces 34 = .ok (.invokestatic 38, 3) := by decide +kernel
theorem dX2_dropPlaces_37 : decode cX2_dropPlaces 37 = .ok (.aload_n 0, 1) := by decide +kernel
theorem dX2_dropPlaces_38 : decode cX2_dropPlaces 38 = .ok (.getfield 15, 3) := by decide +kernel
theorem dX2_dropPlaces_41 : decode cX2_dropPlaces 41 = .ok (.iload_n 2, 1) := by decide +kernel
theorem dX2_dropPlaces_42 : decode cX2_dropPlaces 42 = .ok (.aload_n 0, 1) := by decide +kernel
theorem dX2_dropPlaces_43 : decode cX2_dropPlaces 43 = .ok (.getfield 15, 3) := by decide +kernel
theorem dX2_dropPlaces_46 : decode cX2_dropPlaces 46 = .ok (.iload_n 1, 1) := by decide +kernel
theorem dX2_dropPlaces_47 : decode cX2_dropPlaces 47 = .ok (.aload_n 0, 1) := by decide +kernel
theorem dX2_dropPlaces_48 : decode cX2_dropPlaces 48 = .ok (.getfield 18, 3) := by decide +kernel
theorem dX2_dropPlaces_51 : decode cX2_dropPlaces 51 = .ok (.iload_n 2, 1) := by decide +kernel
theorem dX2_dropPlaces_52 : decode cX2_dropPlaces 52 = .ok (.isub, 1) := by decide +kernel
theorem dX2_dropPlaces_53 : decode cX2_dropPlaces 53 = .ok (.invokestatic 38, 3) := by decide +kernel
theorem dX2_dropPlaces_56 : decode cX2_dropPlaces 56 = .ok (.aload_n 0, 1) := by decide +kernel
theorem dX2_dropPlaces_57 : decode cX2_dropPlaces 57 = .ok (.dup, 1) := by decide +kernel
theorem dX2_dropPlaces_58 : decode cX2_dropPlaces 58 = .ok (.getfield 18, 3) := by decide +kernel
theorem dX2_dropPlaces_61 : decode cX2_dropPlaces 61 = .ok (.iload_n 2, 1) := by decide +kernel
theorem dX2_dropPlaces_62 : decode cX2_dropPlaces 62 = .ok (.iload_n 1, 1) := by decide +kernel
theorem dX2_dropPlaces_63 : decode cX2_dropPlaces 63 = .ok (.isub, 1) := by decide +kernel
theorem dX2_dropPlaces_64 : decode cX2_dropPlaces 64 = .ok (.isub, 1) := by decide +kernel
theorem dX2_dropPlaces_65 : decode cX2_dropPlaces 65 = .ok (.putfield 18, 3) := by decide +kernel
theorem dX2_dropPlaces_68 : decode cX2_dropPlaces 68 = .ok (.return_, 1) := by decide +kernel
theorem dX2_change_0 : decode cX2_change 0 = .ok (.iload_n 1, 1) := by decide +kernel
theorem dX2_change_1 : decode cX2_change 1 = .ok (.bipush 114, 2) := by decide +kernel
theorem dX2_change_3 : decode cX2_change 3 = .ok (.if_icmp .ne 9, 3) := by decide +kernel
theorem dX2_change_6 : decode cX2_change 6 = .ok (.aload_n 0, 1) := by decide +kernel
theorem dX2_change_7 : decode cX2_change 7 = .ok (.iload_n 2, 1) := by decide +kernel
theorem dX2_change_8 : decode cX2_change 8 = .ok (.invokevirtual 48, 3) := by decide +kernel
theorem dX2_change_11 : decode cX2_change 11 = .ok (.ireturn, 1) := by decide +kernel
theorem dX2_change_12 : decode cX2_change 12 = .ok (.aload_n 0, 1) := by decide +kernel
theorem dX2_change_13 : decode cX2_change 13 = .ok (.iload_n 2, 1) := by decide +kernel
theorem dX2_change_14 : decode cX2_change 14 = .ok (.invokevirtual 52, 3) := by decide +kernel
theorem dX2_change_17 : decode cX2_change 17 = .ok (.istore 4, 2) := by decide +kernel
theorem dX2_change_19 : decode cX2_change 19 = .ok (.iload_n 1, 1) := by decide +kernel
theorem dX2_change_20 : decode cX2_change 20 = .ok (.bipush 115, 2) := by decide +kernel
theorem dX2_change_22 : decode cX2_change 22 = .ok (.if_icmp .ne 23, 3) := by decide +kernel
theorem dX2_change_25 : decode cX2_change 25 = .ok (.iload 4, 2) := by decide +kernel
theorem dX2_change_27 : decode cX2_change 27 = .ok (.ifCond .lt 18, 3) := by decide +kernel
theorem dX2_change_30 : decode cX2_change 30 = .ok (.aload_n 0, 1) := by decide +kernel
theorem dX2_change_31 : decode cX2_change 31 = .ok (.iload_n 2, 1) := by decide +kernel
theorem dX2_change_32 : decode cX2_change 32 = .ok (.aload_n 0, 1) := by decide +kernel
theorem dX2_change_33 : decode cX2_change 33 = .ok (.getfield 15, 3) := by decide +kernel
theorem dX2_change_36 : decode cX2_change 36 = .ok (.iload 4, 2) := by decide +kernel
theorem dX2_change_38 : decode cX2_change 38 = .ok (.iaload, 1) := by decide +kernel
theorem dX2_change_39 : decode cX2_change 39 = .ok (.iload_n 3, 1) := by decide +kernel
theorem dX2_change_40 : decode cX2_change 40 = .ok (.iadd, 1) := by decide +kernel
theorem dX2_change_41 : decode cX2_change 41 = .ok (.invokevirtual 55, 3) := by decide +kernel
theorem dX2_change_44 : decode cX2_change 44 = .ok (.ireturn, 1) := by decide +kernel
theorem dX2_change_45 : decode cX2_change 45 = .ok (.iload_n 1, 1) := by decide +kernel
theorem dX2_change_46 : decode cX2_change 46 = .ok (.bipush 97, 2) := by decide +kernel
theorem dX2_change_48 : decode cX2_change 48 = .ok (.if_icmp .ne 8, 3) := by decide +kernel
theorem dX2_change_51 : decode cX2_change 51 = .ok (.iload 4, 2) := by decide +kernel
theorem dX2_change_53 : decode cX2_change 53 = .ok (.ifCond .ge 14, 3) := by decide +kernel
theorem dX2_change_56 : decode cX2_change 56 = .ok (.iload_n 1, 1) := by decide +kernel
theorem dX2_change_57 : decode cX2_change 57 = .ok (.bipush 120, 2) := by decide +kernel
theorem dX2_change_59 : decode cX2_change 59 = .ok (.if_icmp .ne 10, 3) := by decide +kernel
theorem dX2_change_62 : decode cX2_change 62 = .ok (.iload 4, 2) := by decide +kernel
theorem dX2_change_64 : decode cX2_change 64 = .ok (.ifCond .ge 5, 3) := by decide +kernel
theorem dX2_change_67 : decode cX2_change 67 = .ok (.iconst 0, 1) := by decide +kernel
theorem dX2_change_68 : decode cX2_change 68 = .ok (.ireturn, 1) := by decide +kernel
theorem dX2_change_69 : decode cX2_change 69 = .ok (.aload_n 0, 1) := by decide +kernel
theorem dX2_change_70 : decode cX2_change 70 = .ok (.iload_n 2, 1) := by decide +kernel
theorem dX2_change_71 : decode cX2_change 71 = .ok (.iload_n 3, 1) := by decide +kernel
theorem dX2_change_72 : decode cX2_change 72 = .ok (.invokevirtual 55, 3) := by decide +kernel
theorem dX2_change_75 : decode cX2_change 75 = .ok (.ireturn, 1) := by decide +kernel
theorem dX2_countMissingIn_0 : decode cX2_countMissingIn 0 = .ok (.iconst 0, 1) := by decide +kernel
theorem dX2_countMissingIn_1 : decode cX2_countMissingIn 1 = .ok (.istore_n 2, 1) := by decide +kernel
theorem dX2_countMissingIn_2 : decode cX2_countMissingIn 2 = .ok (.iconst 0, 1) := by decide +kernel
theorem dX2_countMissingIn_3 : decode cX2_countMissingIn 3 = .ok (.istore_n 3, 1) := by decide +kernel
theorem dX2_countMissingIn_4 : decode cX2_countMissingIn 4 = .ok (.iload_n 3, 1) := by decide +kernel
theorem dX2_countMissingIn_5 : decode cX2_countMissingIn 5 = .ok (.aload_n 0, 1) := by decide +kernel
theorem dX2_countMissingIn_6 : decode cX2_countMissingIn 6 = .ok (.getfield 18, 3) := by decide +kernel
theorem dX2_countMissingIn_9 : decode cX2_countMissingIn 9 = .ok (.if_icmp .ge 25, 3) := by decide +kernel
theorem dX2_countMissingIn_12 : decode cX2_countMissingIn 12 = .ok (.aload_n 1, 1) := by decide +kernel
theorem dX2_countMissingIn_13 : decode cX2_countMissingIn 13 = .ok (.aload_n 0, 1) := by decide +kernel
theorem dX2_countMissingIn_14 : decode cX2_countMissingIn 14 = .ok (.getfield 9, 3) := by decide +kernel
theorem dX2_countMissingIn_17 : decode cX2_countMissingIn 17 = .ok (.iload_n 3, 1) := by decide +kernel
theorem dX2_countMissingIn_18 : decode cX2_countMissingIn 18 = .ok (.iaload, 1) := by decide +kernel
theorem dX2_countMissingIn_19 : decode cX2_countMissingIn 19 = .ok (.invokevirtual 52, 3) := by decide +kernel
theorem dX2_countMissingIn_22 : decode cX2_countMissingIn 22 = .ok (.ifCond .ge 6, 3) := by decide +kernel
theorem dX2_countMissingIn_25 : decode cX2_countMissingIn 25 = .ok (.iinc 2 1, 3) := by decide +kernel
theorem dX2_countMissingIn_28 : decode cX2_countMissingIn 28 = .ok (.iinc 3 1, 3) := by decide +kernel
theorem dX2_countMissingIn_31 : decode cX2_countMissingIn 31 = .ok (.goto (-27), 3) := by decide +kernel
theorem dX2_countMissingIn_34 : decode cX2_countMissingIn 34 = .ok (.iload_n 2, 1) := by decide +kernel
theorem dX2_countMissingIn_35 : decode cX2_countMissingIn 35 = .ok (.ireturn, 1) := by decide +kernel
theorem dX2_takeIn_0 : decode cX2_takeIn 0 = .ok (.iconst 0, 1) := by decide +kernel
theorem dX2_takeIn_1 : decode cX2_takeIn 1 = .ok (.istore_n 3, 1) := by decide +kernel
theorem dX2_takeIn_2 : decode cX2_takeIn 2 = .ok (.iload_n 3, 1) := by decide +kernel
theorem dX2_takeIn_3 : decode cX2_takeIn 3 = .ok (.aload_n 1, 1) := by decide +kernel
theorem dX2_takeIn_4 : decode cX2_takeIn 4 = .ok (.getfield 18, 3) := by decide +kernel
theorem dX2_takeIn_7 : decode cX2_takeIn 7 = .ok (.if_icmp .ge 63, 3) := by decide +kernel
theorem dX2_takeIn_10 : decode cX2_takeIn 10 = .ok (.aload_n 1, 1) := by decide +kernel
theorem dX2_takeIn_11 : decode cX2_takeIn 11 = .ok (.getfield 9, 3) := by decide +kernel
theorem dX2_takeIn_14 : decode cX2_takeIn 14 = .ok (.iload_n 3, 1) := by decide +kernel
theorem dX2_takeIn_15 : decode cX2_takeIn 15 = .ok (.iaload, 1) := by decide +kernel
theorem dX2_takeIn_16 : decode cX2_takeIn 16 = .ok (.istore 4, 2) := by decide +kernel
theorem dX2_takeIn_18 : decode cX2_takeIn 18 = .ok (.aload_n 1, 1) := by decide +kernel
theorem dX2_takeIn_19 : decode cX2_takeIn 19 = .ok (.getfield 15, 3) := by decide +kernel
theorem dX2_takeIn_22 : decode cX2_takeIn 22 = .ok (.iload_n 3, 1) := by decide +kernel
theorem dX2_takeIn_23 : decode cX2_takeIn 23 = .ok (.iaload, 1) := by decide +kernel
theorem dX2_takeIn_24 : decode cX2_takeIn 24 = .ok (.istore 5, 2) := by decide +kernel
theorem dX2_takeIn_26 : decode cX2_takeIn 26 = .ok (.aload_n 0, 1) := by decide +kernel
theorem dX2_takeIn_27 : decode cX2_takeIn 27 = .ok (.iload 4, 2) := by decide +kernel
theorem dX2_takeIn_29 : decode cX2_takeIn 29 = .ok (.invokevirtual 52, 3) := by decide +kernel
theorem dX2_takeIn_32 : decode cX2_takeIn 32 = .ok (.istore 6, 2) := by decide +kernel
theorem dX2_takeIn_34 : decode cX2_takeIn 34 = .ok (.aload_n 0, 1) := by decide +kernel
theorem dX2_takeIn_35 : decode cX2_takeIn 35 = .ok (.iload 4, 2) := by decide +kernel
theorem dX2_takeIn_37 : decode cX2_takeIn 37 = .ok (.iload 6, 2) := by decide +kernel
theorem dX2_takeIn_39 : decode cX2_takeIn 39 = .ok (.ifCond .ge 8, 3) := by decide +kernel
theorem dX2_takeIn_42 : decode cX2_takeIn 42 = .ok (.iload 5, 2) := by decide +kernel
theorem dX2_takeIn_44 : decode cX2_takeIn 44 = .ok (.goto 16, 3) := by decide +kernel
theorem dX2_takeIn_47 : decode cX2_takeIn 47 = .ok (.aload_n 0, 1) := by decide +kernel
theorem dX2_takeIn_48 : decode cX2_takeIn 48 = .ok (.getfield 15, 3) := by decide +kernel
theorem dX2_takeIn_51 : decode cX2_takeIn 51 = .ok (.iload 6, 2) := by decide +kernel
theorem dX2_takeIn_53 : decode cX2_takeIn 53 = .ok (.iaload, 1) := by decide +kernel
theorem dX2_takeIn_54 : decode cX2_takeIn 54 = .ok (.iload 5, 2) := by decide +kernel
theorem dX2_takeIn_56 : decode cX2_takeIn 56 = .ok (.iload_n 2, 1) := by decide +kernel
theorem dX2_takeIn_57 : decode cX2_takeIn 57 = .ok (.invokestatic 59, 3) := by decide +kernel
theorem dX2_takeIn_60 : decode cX2_takeIn 60 = .ok (.invokevirtual 55, 3) := by decide +kernel
theorem dX2_takeIn_63 : decode cX2_takeIn 63 = .ok (.pop, 1) := by decide +kernel
theorem dX2_takeIn_64 : decode cX2_takeIn 64 = .ok (.iinc 3 1, 3) := by decide +kernel
theorem dX2_takeIn_67 : decode cX2_takeIn 67 = .ok (.goto (-65), 3) := by decide +kernel
theorem dX2_takeIn_70 : decode cX2_takeIn 70 = .ok (.return_, 1) := by decide +kernel
theorem dX2_mix_0 : decode cX2_mix 0 = .ok (.iload_n 2, 1) := by decide +kernel
theorem dX2_mix_1 : decode cX2_mix 1 = .ok (.bipush 115, 2) := by decide +kernel
theorem dX2_mix_3 : decode cX2_mix 3 = .ok (.if_icmp .ne 7, 3) := by decide +kernel
theorem dX2_mix_6 : decode cX2_mix 6 = .ok (.iload_n 0, 1) := by decide +kernel
theorem dX2_mix_7 : decode cX2_mix 7 = .ok (.iload_n 1, 1) := by decide +kernel
theorem dX2_mix_8 : decode cX2_mix 8 = .ok (.iadd, 1) := by decide +kernel
theorem dX2_mix_9 : decode cX2_mix 9 = .ok (.ireturn, 1) := by decide +kernel
theorem dX2_mix_10 : decode cX2_mix 10 = .ok (.iload_n 2, 1) := by decide +kernel
theorem dX2_mix_11 : decode cX2_mix 11 = .ok (.bipush 103, 2) := by decide +kernel
theorem dX2_mix_13 : decode cX2_mix 13 = .ok (.if_icmp .ne 11, 3) := by decide +kernel
theorem dX2_mix_16 : decode cX2_mix 16 = .ok (.iload_n 0, 1) := by decide +kernel
theorem dX2_mix_17 : decode cX2_mix 17 = .ok (.iload_n 1, 1) := by decide +kernel
theorem dX2_mix_18 : decode cX2_mix 18 = .ok (.invokestatic 35, 3) := by decide +kernel
theorem dX2_mix_21 : decode cX2_mix 21 = .ok (.goto 8, 3) := by decide +kernel
theorem dX2_mix_24 : decode cX2_mix 24 = .ok (.iload_n 0, 1) := by decide +kernel
theorem dX2_mix_25 : decode cX2_mix 25 = .ok (.iload_n 1, 1) := by decide +kernel
theorem dX2_mix_26 : decode cX2_mix 26 = .ok (.invokestatic 29, 3) := by decide +kernel
theorem dX2_mix_29 : decode cX2_mix 29 = .ok (.ireturn, 1) := by decide +kernel
theorem dX2_becomeCopy_0 : decode cX2_becomeCopy 0 = .ok (.aload_n 0, 1) := by decide +kernel
theorem dX2_becomeCopy_1 : decode cX2_becomeCopy 1 = .ok (.aload_n 1, 1) := by decide +kernel
theorem dX2_becomeCopy_2 : decode cX2_becomeCopy 2 = .ok (.getfield 18, 3) := by decide +kernel
theorem dX2_becomeCopy_5 : decode cX2_becomeCopy 5 = .ok (.putfield 18, 3) := by decide +kernel
theorem dX2_becomeCopy_8 : decode cX2_becomeCopy 8 = .ok (.aload_n 1, 1) := by decide +kernel
theorem dX2_becomeCopy_9 : decode cX2_becomeCopy 9 = .ok (.getfield 9, 3) := by decide +kernel
theorem dX2_becomeCopy_12 : decode cX2_becomeCopy 12 = .ok (.iconst 0, 1) := by decide +kernel
theorem dX2_becomeCopy_13 : decode cX2_becomeCopy 13 = .ok (.aload_n 0, 1) := by decide +kernel
theorem dX2_becomeCopy_14 : decode cX2_becomeCopy 14 = .ok (.getfield 9, 3) := by decide +kernel
theorem dX2_becomeCopy_17 : decode cX2_becomeCopy 17 = .ok (.iconst 0, 1) := by decide +kernel
theorem dX2_becomeCopy_18 : decode cX2_becomeCopy 18 = .ok (.aload_n 0, 1) := by decide +kernel
theorem dX2_becomeCopy_19 : decode cX2_becomeCopy 19 = .ok (.getfield 18, 3) := by decide +kernel
theorem dX2_becomeCopy_22 : decode cX2_becomeCopy 22 = .ok (.invokestatic 38, 3) := by decide +kernel
theorem dX2_becomeCopy_25 : decode cX2_becomeCopy 25 = .ok (.aload_n 1, 1) := by decide +kernel
theorem dX2_becomeCopy_26 : decode cX2_becomeCopy 26 = .ok (.getfield 15, 3) := by decide +kernel
theorem dX2_becomeCopy_29 : decode cX2_becomeCopy 29 = .ok (.iconst 0, 1) := by decide +kernel
theorem dX2_becomeCopy_30 : decode cX2_becomeCopy 30 = .ok (.aload_n 0, 1) := by decide +kernel
theorem dX2_becomeCopy_31 : decode cX2_becomeCopy 31 = .ok (.getfield 15, 3) := by decide +kernel
theorem dX2_becomeCopy_34 : decode cX2_becomeCopy 34 = .ok (.iconst 0, 1) := by decide +kernel
theorem dX2_becomeCopy_35 : decode cX2_becomeCopy 35 = .ok (.aload_n 0, 1) := by decide +kernel
theorem dX2_becomeCopy_36 : decode cX2_becomeCopy 36 = .ok (.getfield 18, 3) := by decide +kernel
theorem dX2_becomeCopy_39 : decode cX2_becomeCopy 39 = .ok (.invokestatic 38, 3) := by decide +kernel
theorem dX2_becomeCopy_42 : decode cX2_becomeCopy 42 = .ok (.return_, 1) := by decide +kernel
theorem dX2_isSame_0 : decode cX2_isSame 0 = .ok (.aload_n 0, 1) := by decide +kernel
theorem dX2_isSame_1 : decode cX2_isSame 1 = .ok (.getfield 18, 3) := by decide +kernel
theorem dX2_isSame_4 : decode cX2_isSame 4 = .ok (.aload_n 1, 1) := by decide +kernel
theorem dX2_isSame_5 : decode cX2_isSame 5 = .ok (.getfield 18, 3) := by decide +kernel
theorem dX2_isSame_8 : decode cX2_isSame 8 = .ok (.if_icmp .eq 5, 3) := by decide +kernel
theorem dX2_isSame_11 : decode cX2_isSame 11 = .ok (.iconst 0, 1) := by decide +kernel
theorem dX2_isSame_12 : decode cX2_isSame 12 = .ok (.ireturn, 1) := by decide +kernel
theorem dX2_isSame_13 : decode cX2_isSame 13 = .ok (.iconst 0, 1) := by decide +kernel
theorem dX2_isSame_14 : decode cX2_isSame 14 = .ok (.istore_n 2, 1) := by decide +kernel
theorem dX2_isSame_15 : decode cX2_isSame 15 = .ok (.iload_n 2, 1) := by decide +kernel
theorem dX2_isSame_16 : decode cX2_isSame 16 = .ok (.aload_n 0, 1) := by decide +kernel
theorem dX2_isSame_17 : decode cX2_isSame 17 = .ok (.getfield 18, 3) := by decide +kernel
theorem dX2_isSame_20 : decode cX2_isSame 20 = .ok (.if_icmp .ge 21, 3) := by decide +kernel
theorem dX2_isSame_23 : decode cX2_isSame 23 = .ok (.aload_n 0, 1) := by decide +kernel
theorem dX2_isSame_24 : decode cX2_isSame 24 = .ok (.iload_n 2, 1) := by decide +kernel
theorem dX2_isSame_25 : decode cX2_isSame 25 = .ok (.aload_n 1, 1) := by decide +kernel
theorem dX2_isSame_26 : decode cX2_isSame 26 = .ok (.iload_n 2, 1) := by decide +kernel
theorem dX2_isSame_27 : decode cX2_isSame 27 = .ok (.invokevirtual 63, 3) := by decide +kernel
theorem dX2_isSame_30 : decode cX2_isSame 30 = .ok (.ifCond .ne 5, 3) := by decide +kernel
theorem dX2_isSame_33 : decode cX2_isSame 33 = .ok (.iconst 0, 1) := by decide +kernel
theorem dX2_isSame_34 : decode cX2_isSame 34 = .ok (.ireturn, 1) := by decide +kernel
theorem dX2_isSame_35 : decode cX2_isSame 35 = .ok (.iinc 2 1, 3) := by decide +kernel
theorem dX2_isSame_38 : decode cX2_isSame 38 = .ok (.goto (-23), 3) := by decide +kernel
theorem dX2_isSame_41 : decode cX2_isSame 41 = .ok (.iconst 1, 1) := by decide +kernel
theorem dX2_isSame_42 : decode cX2_isSame 42 = .ok (.ireturn, 1) := by decide +kernel
theorem dX2_hasSameAt_0 : decode cX2_hasSameAt 0 = .ok (.aload_n 0, 1) := by decide +kernel
theorem dX2_hasSameAt_1 : decode cX2_hasSameAt 1 = .ok (.getfield 9, 3) := by decide +kernel
theorem dX2_hasSameAt_4 : decode cX2_hasSameAt 4 = .ok (.iload_n 1, 1) := by decide +kernel
theorem dX2_hasSameAt_5 : decode cX2_hasSameAt 5 = .ok (.iaload, 1) := by decide +kernel
theorem dX2_hasSameAt_6 : decode cX2_hasSameAt 6 = .ok (.aload_n 2, 1) := by decide +kernel
theorem dX2_hasSameAt_7 : decode cX2_hasSameAt 7 = .ok (.getfield 9, 3) := by decide +kernel
theorem dX2_hasSameAt_10 : decode cX2_hasSameAt 10 = .ok (.iload_n 3, 1) := by decide +kernel
theorem dX2_hasSameAt_11 : decode cX2_hasSameAt 11 = .ok (.iaload, 1) := by decide +kernel
theorem dX2_hasSameAt_12 : decode cX2_hasSameAt 12 = .ok (.if_icmp .ne 22, 3) := by decide +kernel
theorem dX2_hasSameAt_15 : decode cX2_hasSameAt 15 = .ok (.aload_n 0, 1) := by decide +kernel
theorem dX2_hasSameAt_16 : decode cX2_hasSameAt 16 = .ok (.getfield 15, 3) := by decide +kernel
theorem dX2_hasSameAt_19 : decode cX2_hasSameAt 19 = .ok (.iload_n 1, 1) := by decide +kernel
theorem dX2_hasSameAt_20 : decode cX2_hasSameAt 20 = .ok (.iaload, 1) := by decide +kernel
theorem dX2_hasSameAt_21 : decode cX2_hasSameAt 21 = .ok (.aload_n 2, 1) := by decide +kernel
theorem dX2_hasSameAt_22 : decode cX2_hasSameAt 22 = .ok (.getfield 15, 3) := by decide +kernel
theorem dX2_hasSameAt_25 : decode cX2_hasSameAt 25 = .ok (.iload_n 3, 1) := by decide +kernel
theorem dX2_hasSameAt_26 : decode cX2_hasSameAt 26 = .ok (.iaload, 1) := by decide +kernel
theorem dX2_hasSameAt_27 : decode cX2_hasSameAt 27 = .ok (.if_icmp .ne 7, 3) := by decide +kernel
theorem dX2_hasSameAt_30 : decode cX2_hasSameAt 30 = .ok (.iconst 1, 1) := by decide +kernel
theorem dX2_hasSameAt_31 : decode cX2_hasSameAt 31 = .ok (.goto 4, 3) := by decide +kernel
theorem dX2_hasSameAt_34 : decode cX2_hasSameAt 34 = .ok (.iconst 0, 1) := by decide +kernel
theorem dX2_hasSameAt_35 : decode cX2_hasSameAt 35 = .ok (.ireturn, 1) := by decide +kernel
theorem dX2_addTo_0 : decode cX2_addTo 0 = .ok (.lload_n 1, 1) := by decide +kernel
theorem dX2_addTo_1 : decode cX2_addTo 1 = .ok (.aload_n 0, 1) := by decide +kernel
theorem dX2_addTo_2 : decode cX2_addTo 2 = .ok (.getfield 18, 3) := by decide +kernel
theorem dX2_addTo_5 : decode cX2_addTo 5 = .ok (.invokestatic 67, 3) := by decide +kernel
theorem dX2_addTo_8 : decode cX2_addTo 8 = .ok (.lstore_n 1, 1) := by decide +kernel
theorem dX2_addTo_9 : decode cX2_addTo 9 = .ok (.iconst 0, 1) := by decide +kernel
theorem dX2_addTo_10 : decode cX2_addTo 10 = .ok (.istore_n 3, 1) := by decide +kernel
theorem dX2_addTo_11 : decode cX2_addTo 11 = .ok (.iload_n 3, 1) := by decide +kernel
theorem dX2_addTo_12 : decode cX2_addTo 12 = .ok (.aload_n 0, 1) := by decide +kernel
theorem dX2_addTo_13 : decode cX2_addTo 13 = .ok (.getfield 18, 3) := by decide +kernel
theorem dX2_addTo_16 : decode cX2_addTo 16 = .ok (.if_icmp .ge 29, 3) := by decide +kernel
theorem dX2_addTo_19 : decode cX2_addTo 19 = .ok (.lload_n 1, 1) := by decide +kernel
theorem dX2_addTo_20 : decode cX2_addTo 20 = .ok (.aload_n 0, 1) := by decide +kernel
theorem dX2_addTo_21 : decode cX2_addTo 21 = .ok (.getfield 9, 3) := by decide +kernel
theorem dX2_addTo_24 : decode cX2_addTo 24 = .ok (.iload_n 3, 1) := by decide +kernel
theorem dX2_addTo_25 : decode cX2_addTo 25 = .ok (.iaload, 1) := by decide +kernel
theorem dX2_addTo_26 : decode cX2_addTo 26 = .ok (.invokestatic 67, 3) := by decide +kernel
theorem dX2_addTo_29 : decode cX2_addTo 29 = .ok (.aload_n 0, 1) := by decide +kernel
theorem dX2_addTo_30 : decode cX2_addTo 30 = .ok (.getfield 15, 3) := by decide +kernel
theorem dX2_addTo_33 : decode cX2_addTo 33 = .ok (.iload_n 3, 1) := by decide +kernel
theorem dX2_addTo_34 : decode cX2_addTo 34 = .ok (.iaload, 1) := by decide +kernel
theorem dX2_addTo_35 : decode cX2_addTo 35 = .ok (.invokestatic 67, 3) := by decide +kernel
theorem dX2_addTo_38 : decode cX2_addTo 38 = .ok (.lstore_n 1, 1) := by decide +kernel
theorem dX2_addTo_39 : decode cX2_addTo 39 = .ok (.iinc 3 1, 3) := by decide +kernel
theorem dX2_addTo_42 : decode cX2_addTo 42 = .ok (.goto (-31), 3) := by decide +kernel
theorem dX2_addTo_45 : decode cX2_addTo 45 = .ok (.lload_n 1, 1) := by decide +kernel
theorem dX2_addTo_46 : decode cX2_addTo 46 = .ok (.lreturn, 1) := by decide +kernel
end
section
theorem dX3_init_0 : decode cX3_init 0 = .ok (.aload_n 0, 1) := by decide +kernel
theorem dX3_init_1 : decode cX3_init 1 = .ok (.invokespecial 1, 3) := by decide +kernel
theorem dX3_init_4 : decode cX3_init 4 = .ok (.return_, 1) := by decide +kernel
theorem dX3_becomeSpan_0 : decode cX3_becomeSpan 0 = .ok (.aload_n 0, 1) := by decide +kernel
theorem dX3_becomeSpan_1 : decode cX3_becomeSpan 1 = .ok (.aload_n 1, 1) := by decide +kernel
theorem dX3_becomeSpan_2 : decode cX3_becomeSpan 2 = .ok (.putfield 7, 3) := by decide +kernel
theorem dX3_becomeSpan_5 : decode cX3_becomeSpan 5 = .ok (.aload_n 0, 1) := by decide +kernel
theorem dX3_becomeSpan_6 : decode cX3_becomeSpan 6 = .ok (.iconst 0, 1) := by decide +kernel
theorem dX3_becomeSpan_7 : decode cX3_becomeSpan 7 = .ok (.putfield 13, 3) := by decide +kernel
theorem dX3_becomeSpan_10 : decode cX3_becomeSpan 10 = .ok (.aload_n 0, 1) := by decide +kernel
theorem dX3_becomeSpan_11 : decode cX3_becomeSpan 11 = .ok (.iload_n 2, 1) := by decide +kernel
theorem dX3_becomeSpan_12 : decode cX3_becomeSpan 12 = .ok (.putfield 17, 3) := by decide +kernel
theorem dX3_becomeSpan_15 : decode cX3_becomeSpan 15 = .ok (.aload_n 0, 1) := by decide +kernel
theorem dX3_becomeSpan_16 : decode cX3_becomeSpan 16 = .ok (.iload_n 3, 1) := by decide +kernel
theorem dX3_becomeSpan_17 : decode cX3_becomeSpan 17 = .ok (.putfield 20, 3) := by decide +kernel
theorem dX3_becomeSpan_20 : decode cX3_becomeSpan 20 = .ok (.aload_n 0, 1) := by decide +kernel
theorem dX3_becomeSpan_21 : decode cX3_becomeSpan 21 = .ok (.iload 4, 2) := by decide +kernel
theorem dX3_becomeSpan_23 : decode cX3_becomeSpan 23 = .ok (.putfield 24, 3) := by decide +kernel
theorem dX3_becomeSpan_26 : decode cX3_becomeSpan 26 = .ok (.aload_n 0, 1) := by decide +kernel
theorem dX3_becomeSpan_27 : decode cX3_becomeSpan 27 = .ok (.iload 5, 2) := by decide +kernel
theorem dX3_becomeSpan_29 : decode cX3_becomeSpan 29 = .ok (.putfield 27, 3) := by decide +kernel
theorem dX3_becomeSpan_32 : decode cX3_becomeSpan 32 = .ok (.return_, 1) := by decide +kernel
theorem dX3_becomeCut_0 : decode cX3_becomeCut 0 = .ok (.aload_n 0, 1) := by decide +kernel
theorem dX3_becomeCut_1 : decode cX3_becomeCut 1 = .ok (.aload_n 1, 1) := by decide +kernel
theorem dX3_becomeCut_2 : decode cX3_becomeCut 2 = .ok (.getfield 7, 3) := by decide +kernel
theorem dX3_becomeCut_5 : decode cX3_becomeCut 5 = .ok (.putfield 7, 3) := by decide +kernel
theorem dX3_becomeCut_8 : decode cX3_becomeCut 8 = .ok (.aload_n 0, 1) := by decide +kernel
theorem dX3_becomeCut_9 : decode cX3_becomeCut 9 = .ok (.aload_n 1, 1) := by decide +kernel
theorem dX3_becomeCut_10 : decode cX3_becomeCut 10 = .ok (.getfield 13, 3) := by decide +kernel
theorem dX3_becomeCut_13 : decode cX3_becomeCut 13 = .ok (.iconst 1, 1) := by decide +kernel
theorem dX3_becomeCut_14 : decode cX3_becomeCut 14 = .ok (.iadd, 1) := by decide +kernel
theorem dX3_becomeCut_15 : decode cX3_becomeCut 15 = .ok (.putfield 13, 3) := by decide +kernel
theorem dX3_becomeCut_18 : decode cX3_becomeCut 18 = .ok (.aload_n 0, 1) := by decide +kernel
theorem dX3_becomeCut_19 : decode cX3_becomeCut 19 = .ok (.iload_n 2, 1) := by decide +kernel
theorem dX3_becomeCut_20 : decode cX3_becomeCut 20 = .ok (.ifCond .eq 10, 3) := by decide +kernel
theorem dX3_becomeCut_23 : decode cX3_becomeCut 23 = .ok (.aload_n 1, 1) := by decide +kernel
theorem dX3_becomeCut_24 : decode cX3_becomeCut 24 = .ok (.getfield 17, 3) := by decide +kernel
theorem dX3_becomeCut_27 : decode cX3_becomeCut 27 = .ok (.goto 4, 3) := by decide +kernel
theorem dX3_becomeCut_30 : decode cX3_becomeCut 30 = .ok (.iload_n 3, 1) := by decide +kernel
theorem dX3_becomeCut_31 : decode cX3_becomeCut 31 = .ok (.putfield 17, 3) := by decide +kernel
theorem dX3_becomeCut_34 : decode cX3_becomeCut 34 = .ok (.aload_n 0, 1) := by decide +kernel
theorem dX3_becomeCut_35 : decode cX3_becomeCut 35 = .ok (.iload_n 2, 1) := by decide +kernel
theorem dX3_becomeCut_36 : decode cX3_becomeCut 36 = .ok (.ifCond .eq 10, 3) := by decide +kernel
theorem dX3_becomeCut_39 : decode cX3_becomeCut 39 = .ok (.aload_n 1, 1) := by decide +kernel
theorem dX3_becomeCut_40 : decode cX3_becomeCut 40 = .ok (.getfield 20, 3) := by decide +kernel
theorem dX3_becomeCut_43 : decode cX3_becomeCut 43 = .ok (.goto 5, 3) := by decide +kernel
theorem dX3_becomeCut_46 : decode cX3_becomeCut 46 = .ok (.iload 4, 2) := by decide +kernel
theorem dX3_becomeCut_48 : decode cX3_becomeCut 48 = .ok (.putfield 20, 3) := by decide +kernel
theorem dX3_becomeCut_51 : decode cX3_becomeCut 51 = .ok (.aload_n 0, 1) := by decide +kernel
theorem dX3_becomeCut_52 : decode cX3_becomeCut 52 = .ok (.iload_n 2, 1) := by decide +kernel
theorem dX3_becomeCut_53 : decode cX3_becomeCut 53 = .ok (.ifCond .eq 7, 3) := by decide +kernel
theorem dX3_becomeCut_56 : decode cX3_becomeCut 56 = .ok (.iload_n 3, 1) := by decide +kernel
theorem dX3_becomeCut_57 : decode cX3_becomeCut 57 = .ok (.goto 7, 3) := by decide +kernel
theorem dX3_becomeCut_60 : decode cX3_becomeCut 60 = .ok (.aload_n 1, 1) := by decide +kernel
theorem dX3_becomeCut_61 : decode cX3_becomeCut 61 = .ok (.getfield 24, 3) := by decide +kernel
theorem dX3_becomeCut_64 : decode cX3_becomeCut 64 = .ok (.putfield 24, 3) := by decide +kernel
theorem dX3_becomeCut_67 : decode cX3_becomeCut 67 = .ok (.aload_n 0, 1) := by decide +kernel
theorem dX3_becomeCut_68 : decode cX3_becomeCut 68 = .ok (.iload_n 2, 1) := by decide +kernel
theorem dX3_becomeCut_69 : decode cX3_becomeCut 69 = .ok (.ifCond .eq 8, 3) := by decide +kernel
theorem dX3_becomeCut_72 : decode cX3_becomeCut 72 = .ok (.iload 4, 2) := by decide +kernel
theorem dX3_becomeCut_74 : decode cX3_becomeCut 74 = .ok (.goto 7, 3) := by decide +kernel
theorem dX3_becomeCut_77 : decode cX3_becomeCut 77 = .ok (.aload_n 1, 1) := by decide +kernel
theorem dX3_becomeCut_78 : decode cX3_becomeCut 78 = .ok (.getfield 27, 3) := by decide +kernel
theorem dX3_becomeCut_81 : decode cX3_becomeCut 81 = .ok (.putfield 27, 3) := by decide +kernel
theorem dX3_becomeCut_84 : decode cX3_becomeCut 84 = .ok (.return_, 1) := by decide +kernel
theorem dX3_covers_0 : decode cX3_covers 0 = .ok (.aload_n 0, 1) := by decide +kernel
theorem dX3_covers_1 : decode cX3_covers 1 = .ok (.getfield 20, 3) := by decide +kernel
theorem dX3_covers_4 : decode cX3_covers 4 = .ok (.ifCond .eq 19, 3) := by decide +kernel
theorem dX3_covers_7 : decode cX3_covers 7 = .ok (.iload_n 1, 1) := by decide +kernel
theorem dX3_covers_8 : decode cX3_covers 8 = .ok (.aload_n 0, 1) := by decide +kernel
theorem dX3_covers_9 : decode cX3_covers 9 = .ok (.getfield 17, 3) := by decide +kernel
theorem dX3_covers_12 : decode cX3_covers 12 = .ok (.if_icmp .ge 7, 3) := by decide +kernel
theorem dX3_covers_15 : decode cX3_covers 15 = .ok (.iconst 1, 1) := by decide +kernel
theorem dX3_covers_16 : decode cX3_covers 16 = .ok (.goto 20, 3) := by decide +kernel
theorem dX3_covers_19 : decode cX3_covers 19 = .ok (.iconst 0, 1) := by decide +kernel
theorem dX3_covers_20 : decode cX3_covers 20 = .ok (.goto 16, 3) := by decide +kernel
theorem dX3_covers_23 : decode cX3_covers 23 = .ok (.iload_n 1, 1) := by decide +kernel
theorem dX3_covers_24 : decode cX3_covers 24 = .ok (.aload_n 0, 1) := by decide +kernel
theorem dX3_covers_25 : decode cX3_covers 25 = .ok (.getfield 17, 3) := by decide +kernel
theorem dX3_covers_28 : decode cX3_covers 28 = .ok (.if_icmp .gt 7, 3) := by decide +kernel
theorem dX3_covers_31 : decode cX3_covers 31 = .ok (.iconst 1, 1) := by decide +kernel
theorem dX3_covers_32 : decode cX3_covers 32 = .ok (.goto 4, 3) := by decide +kernel
theorem dX3_covers_35 : decode cX3_covers 35 = .ok (.iconst 0, 1) := by decide +kernel
theorem dX3_covers_36 : decode cX3_covers 36 = .ok (.istore_n 2, 1) := by decide +kernel
theorem dX3_covers_37 : decode cX3_covers 37 = .ok (.aload_n 0, 1) := by decide +kernel
theorem dX3_covers_38 : decode cX3_covers 38 = .ok (.getfield 27, 3) := by decide +kernel
theorem dX3_covers_41 : decode cX3_covers 41 = .ok (.ifCond .eq 19, 3) := by decide +kernel
theorem dX3_covers_44 : decode cX3_covers 44 = .ok (.iload_n 1, 1) := by decide +kernel
theorem dX3_covers_45 : decode cX3_covers 45 = .ok (.aload_n 0, 1) := by decide +kernel
theorem dX3_covers_46 : decode cX3_covers 46 = .ok (.getfield 24, 3) := by decide +kernel
theorem dX3_covers_49 : decode cX3_covers 49 = .ok (.if_icmp .le 7, 3) := by decide +kernel
theorem dX3_covers_52 : decode cX3_covers 52 = .ok (.iconst 1, 1) := by decide +kernel
theorem dX3_covers_53 : decode cX3_covers 53 = .ok (.goto 20, 3) := by decide +kernel
theorem dX3_covers_56 : decode cX3_covers 56 = .ok (.iconst 0, 1) := by decide +kernel
theorem dX3_covers_57 : decode cX3_covers 57 = .ok (.goto 16, 3) := by decide +kernel
theorem dX3_covers_60 : decode cX3_covers 60 = .ok (.iload_n 1, 1) := by decide +kernel
theorem dX3_covers_61 : decode cX3_covers 61 = .ok (.aload_n 0, 1) := by decide +kernel
theorem dX3_covers_62 : decode cX3_covers 62 = .ok (.getfield 24, 3) := by decide +kernel
theorem dX3_covers_65 : decode cX3_covers 65 = .ok (.if_icmp .lt 7, 3) := by decide +kernel
theorem dX3_covers_68 : decode cX3_covers 68 = .ok (.iconst 1, 1) := by decide +kernel
theorem dX3_covers_69 : decode cX3_covers 69 = .ok (.goto 4, 3) := by decide +kernel
theorem dX3_covers_72 : decode cX3_covers 72 = .ok (.iconst 0, 1) := by decide +kernel
theorem dX3_covers_73 : decode cX3_covers 73 = .ok (.istore_n 3, 1) := by decide +kernel
theorem dX3_covers_74 : decode cX3_covers 74 = .ok (.iload_n 2, 1) := by decide +kernel
theorem dX3_covers_75 : decode cX3_covers 75 = .ok (.ifCond .ne 11, 3) := by decide +kernel
theorem dX3_covers_78 : decode cX3_covers 78 = .ok (.iload_n 3, 1) := by decide +kernel
theorem dX3_covers_79 : decode cX3_covers 79 = .ok (.ifCond .ne 7, 3) := by decide +kernel
theorem dX3_covers_82 : decode cX3_covers 82 = .ok (.iconst 1, 1) := by decide +kernel
theorem dX3_covers_83 : decode cX3_covers 83 = .ok (.goto 4, 3) := by decide +kernel
theorem dX3_covers_86 : decode cX3_covers 86 = .ok (.iconst 0, 1) := by decide +kernel
theorem dX3_covers_87 : decode cX3_covers 87 = .ok (.ireturn, 1) := by decide +kernel
theorem dX3_beginIn_0 : decode cX3_beginIn 0 = .ok (.aload_n 0, 1) := by decide +kernel
theorem dX3_beginIn_1 : decode cX3_beginIn 1 = .ok (.getfield 20, 3) := by decide +kernel
theorem dX3_beginIn_4 : decode cX3_beginIn 4 = .ok (.ifCond .eq 14, 3) := by decide +kernel
theorem dX3_beginIn_7 : decode cX3_beginIn 7 = .ok (.aload_n 1, 1) := by decide +kernel
theorem dX3_beginIn_8 : decode cX3_beginIn 8 = .ok (.aload_n 0, 1) := by decide +kernel
theorem dX3_beginIn_9 : decode cX3_beginIn 9 = .ok (.getfield 17, 3) := by decide +kernel
theorem dX3_beginIn_12 : decode cX3_beginIn 12 = .ok (.invokevirtual 30, 3) := by decide +kernel
theorem dX3_beginIn_15 : decode cX3_beginIn 15 = .ok (.goto 11, 3) := by decide +kernel
theorem dX3_beginIn_18 : decode cX3_beginIn 18 = .ok (.aload_n 1, 1) := by decide +kernel
theorem dX3_beginIn_19 : decode cX3_beginIn 19 = .ok (.aload_n 0, 1) := by decide +kernel
theorem dX3_beginIn_20 : decode cX3_beginIn 20 = .ok (.getfield 17, 3) := by decide +kernel
theorem dX3_beginIn_23 : decode cX3_beginIn 23 = .ok (.invokevirtual 36, 3) := by decide +kernel
theorem dX3_beginIn_26 : decode cX3_beginIn 26 = .ok (.ireturn, 1) := by decide +kernel
theorem dX3_stopIn_0 : decode cX3_stopIn 0 = .ok (.aload_n 0, 1) := by decide +kernel
theorem dX3_stopIn_1 : decode cX3_stopIn 1 = .ok (.getfield 27, 3) := by decide +kernel
theorem dX3_stopIn_4 : decode cX3_stopIn 4 = .ok (.ifCond .eq 14, 3) := by decide +kernel
theorem dX3_stopIn_7 : decode cX3_stopIn 7 = .ok (.aload_n 1, 1) := by decide +kernel
theorem dX3_stopIn_8 : decode cX3_stopIn 8 = .ok (.aload_n 0, 1) := by decide +kernel
theorem dX3_stopIn_9 : decode cX3_stopIn 9 = .ok (.getfield 24, 3) := by decide +kernel
theorem dX3_stopIn_12 : decode cX3_stopIn 12 = .ok (.invokevirtual 36, 3) := by decide +kernel
theorem dX3_stopIn_15 : decode cX3_stopIn 15 = .ok (.goto 11, 3) := by decide +kernel
theorem dX3_stopIn_18 : decode cX3_stopIn 18 = .ok (.aload_n 1, 1) := by decide +kernel
theorem dX3_stopIn_19 : decode cX3_stopIn 19 = .ok (.aload_n 0, 1) := by decide +kernel
theorem dX3_stopIn_20 : decode cX3_stopIn 20 = .ok (.getfield 24, 3) := by decide +kernel
theorem dX3_stopIn_23 : decode cX3_stopIn 23 = .ok (.invokevirtual 30, 3) := by decide +kernel
theorem dX3_stopIn_26 : decode cX3_stopIn 26 = .ok (.istore_n 2, 1) := by decide +kernel
theorem dX3_stopIn_27 : decode cX3_stopIn 27 = .ok (.iload_n 2, 1) := by decide +kernel
theorem dX3_stopIn_28 : decode cX3_stopIn 28 = .ok (.aload_n 0, 1) := by decide +kernel
theorem dX3_stopIn_29 : decode cX3_stopIn 29 = .ok (.aload_n 1, 1) := by decide +kernel
theorem dX3_stopIn_30 : decode cX3_stopIn 30 = .ok (.invokevirtual 39, 3) := by decide +kernel
theorem dX3_stopIn_33 : decode cX3_stopIn 33 = .ok (.invokestatic 43, 3) := by decide +kernel
theorem dX3_stopIn_36 : decode cX3_stopIn 36 = .ok (.ireturn, 1) := by decide +kernel
theorem dX3_countEntries_0 : decode cX3_countEntries 0 = .ok (.aload_n 0, 1) := by decide +kernel
theorem dX3_countEntries_1 : decode cX3_countEntries 1 = .ok (.getfield 7, 3) := by decide +kernel
theorem dX3_countEntries_4 : decode cX3_countEntries 4 = .ok (.astore_n 1, 1) := by decide +kernel
theorem dX3_countEntries_5 : decode cX3_countEntries 5 = .ok (.aload_n 1, 1) := by decide +kernel
theorem dX3_countEntries_6 : decode cX3_countEntries 6 = .ok (.ifnonnull 7, 3) := by decide +kernel
theorem dX3_countEntries_9 : decode cX3_countEntries 9 = .ok (.iconst (-1), 1) := by decide +kernel
theorem dX3_countEntries_10 : decode cX3_countEntries 10 = .ok (.goto 14, 3) := by decide +kernel
theorem dX3_countEntries_13 : decode cX3_countEntries 13 = .ok (.aload_n 0, 1) := by decide +kernel
theorem dX3_countEntries_14 : decode cX3_countEntries 14 = .ok (.aload_n 1, 1) := by decide +kernel
theorem dX3_countEntries_15 : decode cX3_countEntries 15 = .ok (.invokevirtual 49, 3) := by decide +kernel
theorem dX3_countEntries_18 : decode cX3_countEntries 18 = .ok (.aload_n 0, 1) := by decide +kernel
theorem dX3_countEntries_19 : decode cX3_countEntries 19 = .ok (.aload_n 1, 1) := by decide +kernel
theorem dX3_countEntries_20 : decode cX3_countEntries 20 = .ok (.invokevirtual 39, 3) := by decide +kernel
theorem dX3_countEntries_23 : decode cX3_countEntries 23 = .ok (.isub, 1) := by decide +kernel
theorem dX3_countEntries_24 : decode cX3_countEntries 24 = .ok (.ireturn, 1) := by decide +kernel
theorem dX3_hasJustItsSpan_0 : decode cX3_hasJustItsSpan 0 = .ok (.aload_n 0, 1) := by decide +kernel
theorem dX3_hasJustItsSpan_1 : decode cX3_hasJustItsSpan 1 = .ok (.getfield 7, 3) := by decide +kernel
theorem dX3_hasJustItsSpan_4 : decode cX3_hasJustItsSpan 4 = .ok (.astore_n 1, 1) := by decide +kernel
theorem dX3_hasJustItsSpan_5 : decode cX3_hasJustItsSpan 5 = .ok (.aload_n 1, 1) := by decide +kernel
theorem dX3_hasJustItsSpan_6 : decode cX3_hasJustItsSpan 6 = .ok (.ifnonnull 5, 3) := by decide +kernel
theorem dX3_hasJustItsSpan_9 : decode cX3_hasJustItsSpan 9 = .ok (.iconst 1, 1) := by decide +kernel
theorem dX3_hasJustItsSpan_10 : decode cX3_hasJustItsSpan 10 = .ok (.ireturn, 1) := by decide +kernel
theorem dX3_hasJustItsSpan_11 : decode cX3_hasJustItsSpan 11 = .ok (.aload_n 0, 1) := by decide +kernel
theorem dX3_hasJustItsSpan_12 : decode cX3_hasJustItsSpan 12 = .ok (.aload_n 1, 1) := by decide +kernel
theorem dX3_hasJustItsSpan_13 : decode cX3_hasJustItsSpan 13 = .ok (.invokevirtual 39, 3) := by decide +kernel
theorem dX3_hasJustItsSpan_16 : decode cX3_hasJustItsSpan 16 = .ok (.istore_n 2, 1) := by decide +kernel
theorem dX3_hasJustItsSpan_17 : decode cX3_hasJustItsSpan 17 = .ok (.aload_n 0, 1) := by decide +kernel
theorem dX3_hasJustItsSpan_18 : decode cX3_hasJustItsSpan 18 = .ok (.aload_n 1, 1) := by decide +kernel
theorem dX3_hasJustItsSpan_19 : decode cX3_hasJustItsSpan 19 = .ok (.invokevirtual 49, 3) := by decide +kernel
theorem dX3_hasJustItsSpan_22 : decode cX3_hasJustItsSpan 22 = .ok (.istore_n 3, 1) := by decide +kernel
theorem dX3_hasJustItsSpan_23 : decode cX3_hasJustItsSpan 23 = .ok (.iconst 0, 1) := by decide +kernel
theorem dX3_hasJustItsSpan_24 : decode cX3_hasJustItsSpan 24 = .ok (.istore 4, 2) := by decide +kernel
theorem dX3_hasJustItsSpan_26 : decode cX3_hasJustItsSpan 26 = .ok (.iload 4, 2) := by decide +kernel
theorem dX3_hasJustItsSpan_28 : decode cX3_hasJustItsSpan 28 = .ok (.aload_n 1, 1) := by decide +kernel
theorem dX3_hasJustItsSpan_29 : decode cX3_hasJustItsSpan 29 = .ok (.getfield 52, 3) := by decide +kernel
theorem dX3_hasJustItsSpan_32 : decode cX3_hasJustItsSpan 32 = .ok (.if_icmp .ge 46, 3) := by decide +kernel
theorem dX3_hasJustItsSpan_35 : decode cX3_hasJustItsSpan 35 = .ok (.iload 4, 2) := by decide +kernel
theorem dX3_hasJustItsSpan_37 : decode cX3_hasJustItsSpan 37 = .ok (.iload_n 2, 1) := by decide +kernel
theorem dX3_hasJustItsSpan_38 : decode cX3_hasJustItsSpan 38 = .ok (.if_icmp .lt 13, 3) := by decide +kernel
theorem dX3_hasJustItsSpan_41 : decode cX3_hasJustItsSpan 41 = .ok (.iload 4, 2) := by decide +kernel
theorem dX3_hasJustItsSpan_43 : decode cX3_hasJustItsSpan 43 = .ok (.iload_n 3, 1) := by decide +kernel
theorem dX3_hasJustItsSpan_44 : decode cX3_hasJustItsSpan 44 = .ok (.if_icmp .ge 7, 3) := by decide +kernel
theorem dX3_hasJustItsSpan_47 : decode cX3_hasJustItsSpan 47 = .ok (.iconst 1, 1) := by decide +kernel
theorem dX3_hasJustItsSpan_48 : decode cX3_hasJustItsSpan 48 = .ok (.goto 4, 3) := by decide +kernel
theorem dX3_hasJustItsSpan_51 : decode cX3_hasJustItsSpan 51 = .ok (.iconst 0, 1) := by decide +kernel
theorem dX3_hasJustItsSpan_52 : decode cX3_hasJustItsSpan 52 = .ok (.istore 5, 2) := by decide +kernel
theorem dX3_hasJustItsSpan_54 : decode cX3_hasJustItsSpan 54 = .ok (.iload 5, 2) := by decide +kernel
theorem dX3_hasJustItsSpan_56 : decode cX3_hasJustItsSpan 56 = .ok (.aload_n 0, 1) := by decide +kernel
theorem dX3_hasJustItsSpan_57 : decode cX3_hasJustItsSpan 57 = .ok (.aload_n 1, 1) := by decide +kernel
theorem dX3_hasJustItsSpan_58 : decode cX3_hasJustItsSpan 58 = .ok (.getfield 55, 3) := by decide +kernel
theorem dX3_hasJustItsSpan_61 : decode cX3_hasJustItsSpan 61 = .ok (.iload 4, 2) := by decide +kernel
theorem dX3_hasJustItsSpan_63 : decode cX3_hasJustItsSpan 63 = .ok (.iaload, 1) := by decide +kernel
theorem dX3_hasJustItsSpan_64 : decode cX3_hasJustItsSpan 64 = .ok (.invokevirtual 59, 3) := by decide +kernel
theorem dX3_hasJustItsSpan_67 : decode cX3_hasJustItsSpan 67 = .ok (.if_icmp .eq 5, 3) := by decide +kernel
theorem dX3_hasJustItsSpan_70 : decode cX3_hasJustItsSpan 70 = .ok (.iconst 0, 1) := by decide +kernel
theorem dX3_hasJustItsSpan_71 : decode cX3_hasJustItsSpan 71 = .ok (.ireturn, 1) := by decide +kernel
theorem dX3_hasJustItsSpan_72 : decode cX3_hasJustItsSpan 72 = .ok (.iinc 4 1, 3) := by decide +kernel
theorem dX3_hasJustItsSpan_75 : decode cX3_hasJustItsSpan 75 = .ok (.goto (-49), 3) := by decide +kernel
theorem dX3_hasJustItsSpan_78 : decode cX3_hasJustItsSpan 78 = .ok (.iconst 1, 1) := by decide +kernel
theorem dX3_hasJustItsSpan_79 : decode cX3_hasJustItsSpan 79 = .ok (.ireturn, 1) := by decide +kernel
theorem dX3_addTo_0 : decode cX3_addTo 0 = .ok (.aload_n 0, 1) := by decide +kernel
theorem dX3_addTo_1 : decode cX3_addTo 1 = .ok (.getfield 7, 3) := by decide +kernel
theorem dX3_addTo_4 : decode cX3_addTo 4 = .ok (.astore_n 3, 1) := by decide +kernel
theorem dX3_addTo_5 : decode cX3_addTo 5 = .ok (.aload_n 3, 1) := by decide +kernel
theorem dX3_addTo_6 : decode cX3_addTo 6 = .ok (.ifnonnull 9, 3) := by decide +kernel
theorem dX3_addTo_9 : decode cX3_addTo 9 = .ok (.lload_n 1, 1) := by decide +kernel
theorem dX3_addTo_10 : decode cX3_addTo 10 = .ok (.iconst (-1), 1) := by decide +kernel
theorem dX3_addTo_11 : decode cX3_addTo 11 = .ok (.invokestatic 63, 3) := by decide +kernel
theorem dX3_addTo_14 : decode cX3_addTo 14 = .ok (.lreturn, 1) := by decide +kernel
theorem dX3_addTo_15 : decode cX3_addTo 15 = .ok (.aload_n 0, 1) := by decide +kernel
theorem dX3_addTo_16 : decode cX3_addTo 16 = .ok (.aload_n 3, 1) := by decide +kernel
theorem dX3_addTo_17 : decode cX3_addTo 17 = .ok (.invokevirtual 49, 3) := by decide +kernel
theorem dX3_addTo_20 : decode cX3_addTo 20 = .ok (.istore 4, 2) := by decide +kernel
theorem dX3_addTo_22 : decode cX3_addTo 22 = .ok (.lload_n 1, 1) := by decide +kernel
theorem dX3_addTo_23 : decode cX3_addTo 23 = .ok (.aload_n 0, 1) := by decide +kernel
theorem dX3_addTo_24 : decode cX3_addTo 24 = .ok (.invokevirtual 69, 3) := by decide +kernel
theorem dX3_addTo_27 : decode cX3_addTo 27 = .ok (.invokestatic 63, 3) := by decide +kernel
theorem dX3_addTo_30 : decode cX3_addTo 30 = .ok (.lstore_n 1, 1) := by decide +kernel
theorem dX3_addTo_31 : decode cX3_addTo 31 = .ok (.aload_n 0, 1) := by decide +kernel
theorem dX3_addTo_32 : decode cX3_addTo 32 = .ok (.aload_n 3, 1) := by decide +kernel
theorem dX3_addTo_33 : decode cX3_addTo 33 = .ok (.invokevirtual 39, 3) := by decide +kernel
theorem dX3_addTo_36 : decode cX3_addTo 36 = .ok (.istore 5, 2) := by decide +kernel
theorem dX3_addTo_38 : decode cX3_addTo 38 = .ok (.iload 5, 2) := by decide +kernel
theorem dX3_addTo_40 : decode cX3_addTo 40 = .ok (.iload 4, 2) := by decide +kernel
theorem dX3_addTo_42 : decode cX3_addTo 42 = .ok (.if_icmp .ge 21, 3) := by decide +kernel
theorem dX3_addTo_45 : decode cX3_addTo 45 = .ok (.lload_n 1, 1) := by decide +kernel
theorem dX3_addTo_46 : decode cX3_addTo 46 = .ok (.aload_n 3, 1) := by decide +kernel
theorem dX3_addTo_47 : decode cX3_addTo 47 = .ok (.getfield 55, 3) := by decide +kernel
theorem dX3_addTo_50 : decode cX3_addTo 50 = .ok (.iload 5, 2) := by decide +kernel
theorem dX3_addTo_52 : decode cX3_addTo 52 = .ok (.iaload, 1) := by decide +kernel
theorem dX3_addTo_53 : decode cX3_addTo 53 = .ok (.invokestatic 63, 3) := by decide +kernel
theorem dX3_addTo_56 : decode cX3_addTo 56 = .ok (.lstore_n 1, 1) := by decide +kernel
theorem dX3_addTo_57 : decode cX3_addTo 57 = .ok (.iinc 5 1, 3) := by decide +kernel
theorem dX3_addTo_60 : decode cX3_addTo 60 = .ok (.goto (-22), 3) := by decide +kernel
theorem dX3_addTo_63 : decode cX3_addTo 63 = .ok (.lload_n 1, 1) := by decide +kernel
theorem dX3_addTo_64 : decode cX3_addTo 64 = .ok (.lreturn, 1) := by decide +kernel
end
section
theorem dX1_init_0 : decode cX1_init 0 = .ok (.aload_n 0, 1) := by decide +kernel
theorem dX1_init_1 : decode cX1_init 1 = .ok (.invokespecial 3, 3) := by decide +kernel
theorem dX1_init_4 : decode cX1_init 4 = .ok (.aload_n 0, 1) := by decide +kernel
theorem dX1_init_5 : decode cX1_init 5 = .ok (.bipush 30, 2) := by decide +kernel
theorem dX1_init_7 : decode cX1_init 7 = .ok (.newarray .char, 2) := by decide +kernel
theorem dX1_init_9 : decode cX1_init 9 = .ok (.putfield 9, 3) := by decide +kernel
theorem dX1_init_12 : decode cX1_init 12 = .ok (.aload_n 0, 1) := by decide +kernel
theorem dX1_init_13 : decode cX1_init 13 = .ok (.bipush 30, 2) := by decide +kernel
theorem dX1_init_15 : decode cX1_init 15 = .ok (.newarray .int, 2) := by decide +kernel
theorem dX1_init_17 : decode cX1_init 17 = .ok (.putfield 15, 3) := by decide +kernel
theorem dX1_init_20 : decode cX1_init 20 = .ok (.aload_n 0, 1) := by decide +kernel
theorem dX1_init_21 : decode cX1_init 21 = .ok (.bipush 30, 2) := by decide +kernel
theorem dX1_init_23 : decode cX1_init 23 = .ok (.newarray .int, 2) := by decide +kernel
theorem dX1_init_25 : decode cX1_init 25 = .ok (.putfield 19, 3) := by decide +kernel
theorem dX1_init_28 : decode cX1_init 28 = .ok (.return_, 1) := by decide +kernel
theorem dX1_add_0 : decode cX1_add 0 = .ok (.aload_n 0, 1) := by decide +kernel
theorem dX1_add_1 : decode cX1_add 1 = .ok (.getfield 22, 3) := by decide +kernel
theorem dX1_add_4 : decode cX1_add 4 = .ok (.aload_n 0, 1) := by decide +kernel
theorem dX1_add_5 : decode cX1_add 5 = .ok (.getfield 9, 3) := by decide +kernel
theorem dX1_add_8 : decode cX1_add 8 = .ok (.arraylength, 1) := by decide +kernel
theorem dX1_add_9 : decode cX1_add 9 = .ok (.if_icmp .lt 4, 3) := by decide +kernel
theorem dX1_add_12 : decode cX1_add 12 = .ok (.return_, 1) := by decide +kernel
theorem dX1_add_13 : decode cX1_add 13 = .ok (.aload_n 0, 1) := by decide +kernel
theorem dX1_add_14 : decode cX1_add 14 = .ok (.getfield 9, 3) := by decide +kernel
theorem dX1_add_17 : decode cX1_add 17 = .ok (.aload_n 0, 1) := by decide +kernel
theorem dX1_add_18 : decode cX1_add 18 = .ok (.getfield 22, 3) := by decide +kernel
theorem dX1_add_21 : decode cX1_add 21 = .ok (.iload_n 1, 1) := by decide +kernel
theorem dX1_add_22 : decode cX1_add 22 = .ok (.castore, 1) := by decide +kernel
theorem dX1_add_23 : decode cX1_add 23 = .ok (.aload_n 0, 1) := by decide +kernel
theorem dX1_add_24 : decode cX1_add 24 = .ok (.getfield 15, 3) := by decide +kernel
theorem dX1_add_27 : decode cX1_add 27 = .ok (.aload_n 0, 1) := by decide +kernel
theorem dX1_add_28 : decode cX1_add 28 = .ok (.getfield 22, 3) := by decide +kernel
theorem dX1_add_31 : decode cX1_add 31 = .ok (.iload_n 2, 1) := by decide +kernel
theorem dX1_add_32 : decode cX1_add 32 = .ok (.iastore, 1) := by decide +kernel
theorem dX1_add_33 : decode cX1_add 33 = .ok (.aload_n 0, 1) := by decide +kernel
theorem dX1_add_34 : decode cX1_add 34 = .ok (.getfield 19, 3) := by decide +kernel
theorem dX1_add_37 : decode cX1_add 37 = .ok (.aload_n 0, 1) := by decide +kernel
theorem dX1_add_38 : decode cX1_add 38 = .ok (.getfield 22, 3) := by decide +kernel
theorem dX1_add_41 : decode cX1_add 41 = .ok (.iload_n 3, 1) := by decide +kernel
theorem dX1_add_42 : decode cX1_add 42 = .ok (.iastore, 1) := by decide +kernel
theorem dX1_add_43 : decode cX1_add 43 = .ok (.aload_n 0, 1) := by decide +kernel
theorem dX1_add_44 : decode cX1_add 44 = .ok (.dup, 1) := by decide +kernel
theorem dX1_add_45 : decode cX1_add 45 = .ok (.getfield 22, 3) := by decide +kernel
theorem dX1_add_48 : decode cX1_add 48 = .ok (.iconst 1, 1) := by decide +kernel
theorem dX1_add_49 : decode cX1_add 49 = .ok (.iadd, 1) := by decide +kernel
theorem dX1_add_50 : decode cX1_add 50 = .ok (.putfield 22, 3) := by decide +kernel
theorem dX1_add_53 : decode cX1_add 53 = .ok (.return_, 1) := by decide +kernel
theorem dX1_doStep_0 : decode cX1_doStep 0 = .ok (.iload_n 1, 1) := by decide +kernel
theorem dX1_doStep_1 : decode cX1_doStep 1 = .ok (.ifCond .lt 34, 3) := by decide +kernel
theorem dX1_doStep_4 : decode cX1_doStep 4 = .ok (.iload_n 1, 1) := by decide +kernel
theorem dX1_doStep_5 : decode cX1_doStep 5 = .ok (.aload_n 0, 1) := by decide +kernel
theorem dX1_doStep_6 : decode cX1_doStep 6 = .ok (.getfield 22, 3) := by decide +kernel
theorem dX1_doStep_9 : decode cX1_doStep 9 = .ok (.if_icmp .ge 26, 3) := by decide +kernel
theorem dX1_doStep_12 : decode cX1_doStep 12 = .ok (.aload_n 2, 1) := by decide +kernel
theorem dX1_doStep_13 : decode cX1_doStep 13 = .ok (.aload_n 0, 1) := by decide +kernel
theorem dX1_doStep_14 : decode cX1_doStep 14 = .ok (.getfield 9, 3) := by decide +kernel
theorem dX1_doStep_17 : decode cX1_doStep 17 = .ok (.iload_n 1, 1) := by decide +kernel
theorem dX1_doStep_18 : decode cX1_doStep 18 = .ok (.caload, 1) := by decide +kernel
theorem dX1_doStep_19 : decode cX1_doStep 19 = .ok (.aload_n 0, 1) := by decide +kernel
theorem dX1_doStep_20 : decode cX1_doStep 20 = .ok (.getfield 15, 3) := by decide +kernel
theorem dX1_doStep_23 : decode cX1_doStep 23 = .ok (.iload_n 1, 1) := by decide +kernel
theorem dX1_doStep_24 : decode cX1_doStep 24 = .ok (.iaload, 1) := by decide +kernel
theorem dX1_doStep_25 : decode cX1_doStep 25 = .ok (.aload_n 0, 1) := by decide +kernel
theorem dX1_doStep_26 : decode cX1_doStep 26 = .ok (.getfield 19, 3) := by decide +kernel
theorem dX1_doStep_29 : decode cX1_doStep 29 = .ok (.iload_n 1, 1) := by decide +kernel
theorem dX1_doStep_30 : decode cX1_doStep 30 = .ok (.iaload, 1) := by decide +kernel
theorem dX1_doStep_31 : decode cX1_doStep 31 = .ok (.invokevirtual 26, 3) := by decide +kernel
theorem dX1_doStep_34 : decode cX1_doStep 34 = .ok (.pop, 1) := by decide +kernel
theorem dX1_doStep_35 : decode cX1_doStep 35 = .ok (.return_, 1) := by decide +kernel
theorem dX1_playOn_0 : decode cX1_playOn 0 = .ok (.iconst 0, 1) := by decide +kernel
theorem dX1_playOn_1 : decode cX1_playOn 1 = .ok (.istore_n 2, 1) := by decide +kernel
theorem dX1_playOn_2 : decode cX1_playOn 2 = .ok (.iconst 0, 1) := by decide +kernel
theorem dX1_playOn_3 : decode cX1_playOn 3 = .ok (.istore_n 3, 1) := by decide +kernel
theorem dX1_playOn_4 : decode cX1_playOn 4 = .ok (.iload_n 3, 1) := by decide +kernel
theorem dX1_playOn_5 : decode cX1_playOn 5 = .ok (.aload_n 0, 1) := by decide +kernel
theorem dX1_playOn_6 : decode cX1_playOn 6 = .ok (.getfield 22, 3) := by decide +kernel
theorem dX1_playOn_9 : decode cX1_playOn 9 = .ok (.if_icmp .ge 37, 3) := by decide +kernel
theorem dX1_playOn_12 : decode cX1_playOn 12 = .ok (.aload_n 1, 1) := by decide +kernel
theorem dX1_playOn_13 : decode cX1_playOn 13 = .ok (.aload_n 0, 1) := by decide +kernel
theorem dX1_playOn_14 : decode cX1_playOn 14 = .ok (.getfield 9, 3) := by decide +kernel
theorem dX1_playOn_17 : decode cX1_playOn 17 = .ok (.iload_n 3, 1) := by decide +kernel
theorem dX1_playOn_18 : decode cX1_playOn 18 = .ok (.caload, 1) := by decide +kernel
theorem dX1_playOn_19 : decode cX1_playOn 19 = .ok (.aload_n 0, 1) := by decide +kernel
theorem dX1_playOn_20 : decode cX1_playOn 20 = .ok (.getfield 15, 3) := by decide +kernel
theorem dX1_playOn_23 : decode cX1_playOn 23 = .ok (.iload_n 3, 1) := by decide +kernel
theorem dX1_playOn_24 : decode cX1_playOn 24 = .ok (.iaload, 1) := by decide +kernel
theorem dX1_playOn_25 : decode cX1_playOn 25 = .ok (.aload_n 0, 1) := by decide +kernel
theorem dX1_playOn_26 : decode cX1_playOn 26 = .ok (.getfield 19, 3) := by decide +kernel
theorem dX1_playOn_29 : decode cX1_playOn 29 = .ok (.iload_n 3, 1) := by decide +kernel
theorem dX1_playOn_30 : decode cX1_playOn 30 = .ok (.iaload, 1) := by decide +kernel
theorem dX1_playOn_31 : decode cX1_playOn 31 = .ok (.invokevirtual 26, 3) := by decide +kernel
theorem dX1_playOn_34 : decode cX1_playOn 34 = .ok (.ifCond .eq 6, 3) := by decide +kernel
theorem dX1_playOn_37 : decode cX1_playOn 37 = .ok (.iinc 2 1, 3) := by decide +kernel
theorem dX1_playOn_40 : decode cX1_playOn 40 = .ok (.iinc 3 1, 3) := by decide +kernel
theorem dX1_playOn_43 : decode cX1_playOn 43 = .ok (.goto (-39), 3) := by decide +kernel
theorem dX1_playOn_46 : decode cX1_playOn 46 = .ok (.iload_n 2, 1) := by decide +kernel
theorem dX1_playOn_47 : decode cX1_playOn 47 = .ok (.ireturn, 1) := by decide +kernel
theorem dX1_addKeysTo_0 : decode cX1_addKeysTo 0 = .ok (.iconst 0, 1) := by decide +kernel
theorem dX1_addKeysTo_1 : decode cX1_addKeysTo 1 = .ok (.istore_n 2, 1) := by decide +kernel
theorem dX1_addKeysTo_2 : decode cX1_addKeysTo 2 = .ok (.iload_n 2, 1) := by decide +kernel
theorem dX1_addKeysTo_3 : decode cX1_addKeysTo 3 = .ok (.aload_n 0, 1) := by decide +kernel
theorem dX1_addKeysTo_4 : decode cX1_addKeysTo 4 = .ok (.getfield 22, 3) := by decide +kernel
theorem dX1_addKeysTo_7 : decode cX1_addKeysTo 7 = .ok (.if_icmp .ge 21, 3) := by decide +kernel
theorem dX1_addKeysTo_10 : decode cX1_addKeysTo 10 = .ok (.aload_n 1, 1) := by decide +kernel
theorem dX1_addKeysTo_11 : decode cX1_addKeysTo 11 = .ok (.aload_n 0, 1) := by decide +kernel
theorem dX1_addKeysTo_12 : decode cX1_addKeysTo 12 = .ok (.getfield 15, 3) := by decide +kernel
theorem dX1_addKeysTo_15 : decode cX1_addKeysTo 15 = .ok (.iload_n 2, 1) := by decide +kernel
theorem dX1_addKeysTo_16 : decode cX1_addKeysTo 16 = .ok (.iaload, 1) := by decide +kernel
theorem dX1_addKeysTo_17 : decode cX1_addKeysTo 17 = .ok (.iconst 0, 1) := by decide +kernel
theorem dX1_addKeysTo_18 : decode cX1_addKeysTo 18 = .ok (.invokevirtual 32, 3) := by decide +kernel
theorem dX1_addKeysTo_21 : decode cX1_addKeysTo 21 = .ok (.pop, 1) := by decide +kernel
theorem dX1_addKeysTo_22 : decode cX1_addKeysTo 22 = .ok (.iinc 2 1, 3) := by decide +kernel
theorem dX1_addKeysTo_25 : decode cX1_addKeysTo 25 = .ok (.goto (-23), 3) := by decide +kernel
theorem dX1_addKeysTo_28 : decode cX1_addKeysTo 28 = .ok (.return_, 1) := by decide +kernel
theorem dX1_addTo_0 : decode cX1_addTo 0 = .ok (.lload_n 1, 1) := by decide +kernel
theorem dX1_addTo_1 : decode cX1_addTo 1 = .ok (.aload_n 0, 1) := by decide +kernel
theorem dX1_addTo_2 : decode cX1_addTo 2 = .ok (.getfield 22, 3) := by decide +kernel
theorem dX1_addTo_5 : decode cX1_addTo 5 = .ok (.invokestatic 36, 3) := by decide +kernel
theorem dX1_addTo_8 : decode cX1_addTo 8 = .ok (.lstore_n 1, 1) := by decide +kernel
theorem dX1_addTo_9 : decode cX1_addTo 9 = .ok (.iconst 0, 1) := by decide +kernel
theorem dX1_addTo_10 : decode cX1_addTo 10 = .ok (.istore_n 3, 1) := by decide +kernel
theorem dX1_addTo_11 : decode cX1_addTo 11 = .ok (.iload_n 3, 1) := by decide +kernel
theorem dX1_addTo_12 : decode cX1_addTo 12 = .ok (.aload_n 0, 1) := by decide +kernel
theorem dX1_addTo_13 : decode cX1_addTo 13 = .ok (.getfield 22, 3) := by decide +kernel
theorem dX1_addTo_16 : decode cX1_addTo 16 = .ok (.if_icmp .ge 38, 3) := by decide +kernel
theorem dX1_addTo_19 : decode cX1_addTo 19 = .ok (.lload_n 1, 1) := by decide +kernel
theorem dX1_addTo_20 : decode cX1_addTo 20 = .ok (.aload_n 0, 1) := by decide +kernel
theorem dX1_addTo_21 : decode cX1_addTo 21 = .ok (.getfield 9, 3) := by decide +kernel
theorem dX1_addTo_24 : decode cX1_addTo 24 = .ok (.iload_n 3, 1) := by decide +kernel
theorem dX1_addTo_25 : decode cX1_addTo 25 = .ok (.caload, 1) := by decide +kernel
theorem dX1_addTo_26 : decode cX1_addTo 26 = .ok (.invokestatic 36, 3) := by decide +kernel
theorem dX1_addTo_29 : decode cX1_addTo 29 = .ok (.aload_n 0, 1) := by decide +kernel
theorem dX1_addTo_30 : decode cX1_addTo 30 = .ok (.getfield 15, 3) := by decide +kernel
theorem dX1_addTo_33 : decode cX1_addTo 33 = .ok (.iload_n 3, 1) := by decide +kernel
theorem dX1_addTo_34 : decode cX1_addTo 34 = .ok (.iaload, 1) := by decide +kernel
theorem dX1_addTo_35 : decode cX1_addTo 35 = .ok (.invokestatic 36, 3) := by decide +kernel
theorem dX1_addTo_38 : decode cX1_addTo 38 = .ok (.aload_n 0, 1) := by decide +kernel
theorem dX1_addTo_39 : decode cX1_addTo 39 = .ok (.getfield 19, 3) := by decide +kernel
theorem dX1_addTo_42 : decode cX1_addTo 42 = .ok (.iload_n 3, 1) := by decide +kernel
theorem dX1_addTo_43 : decode cX1_addTo 43 = .ok (.iaload, 1) := by decide +kernel
theorem dX1_addTo_44 : decode cX1_addTo 44 = .ok (.invokestatic 36, 3) := by decide +kernel
theorem dX1_addTo_47 : decode cX1_addTo 47 = .ok (.lstore_n 1, 1) := by decide +kernel
theorem dX1_addTo_48 : decode cX1_addTo 48 = .ok (.iinc 3 1, 3) := by decide +kernel
theorem dX1_addTo_51 : decode cX1_addTo 51 = .ok (.goto (-40), 3) := by decide +kernel
theorem dX1_addTo_54 : decode cX1_addTo 54 = .ok (.lload_n 1, 1) := by decide +kernel
theorem dX1_addTo_55 : decode cX1_addTo 55 = .ok (.lreturn, 1) := by decide +kernel
end
section
theorem dX0_init_0 : decode cX0_init 0 = .ok (.aload_n 0, 1) := by decide +kernel
theorem dX0_init_1 : decode cX0_init 1 = .ok (.invokespecial 3, 3) := by decide +kernel
theorem dX0_init_4 : decode cX0_init 4 = .ok (.aload_n 0, 1) := by decide +kernel
theorem dX0_init_5 : decode cX0_init 5 = .ok (.new 9, 3) := by decide +kernel
theorem dX0_init_8 : decode cX0_init 8 = .ok (.dup, 1) := by decide +kernel
theorem dX0_init_9 : decode cX0_init 9 = .ok (.invokespecial 11, 3) := by decide +kernel
theorem dX0_init_12 : decode cX0_init 12 = .ok (.putfield 12, 3) := by decide +kernel
theorem dX0_init_15 : decode cX0_init 15 = .ok (.aload_n 0, 1) := by decide +kernel
theorem dX0_init_16 : decode cX0_init 16 = .ok (.new 9, 3) := by decide +kernel
theorem dX0_init_19 : decode cX0_init 19 = .ok (.dup, 1) := by decide +kernel
theorem dX0_init_20 : decode cX0_init 20 = .ok (.invokespecial 11, 3) := by decide +kernel
theorem dX0_init_23 : decode cX0_init 23 = .ok (.putfield 18, 3) := by decide +kernel
theorem dX0_init_26 : decode cX0_init 26 = .ok (.aload_n 0, 1) := by decide +kernel
theorem dX0_init_27 : decode cX0_init 27 = .ok (.new 9, 3) := by decide +kernel
theorem dX0_init_30 : decode cX0_init 30 = .ok (.dup, 1) := by decide +kernel
theorem dX0_init_31 : decode cX0_init 31 = .ok (.invokespecial 11, 3) := by decide +kernel
theorem dX0_init_34 : decode cX0_init 34 = .ok (.putfield 21, 3) := by decide +kernel
theorem dX0_init_37 : decode cX0_init 37 = .ok (.aload_n 0, 1) := by decide +kernel
theorem dX0_init_38 : decode cX0_init 38 = .ok (.new 24, 3) := by decide +kernel
theorem dX0_init_41 : decode cX0_init 41 = .ok (.dup, 1) := by decide +kernel
theorem dX0_init_42 : decode cX0_init 42 = .ok (.invokespecial 26, 3) := by decide +kernel
theorem dX0_init_45 : decode cX0_init 45 = .ok (.putfield 27, 3) := by decide +kernel
theorem dX0_init_48 : decode cX0_init 48 = .ok (.return_, 1) := by decide +kernel
theorem dX0_countKeys_0 : decode cX0_countKeys 0 = .ok (.aload_n 0, 1) := by decide +kernel
theorem dX0_countKeys_1 : decode cX0_countKeys 1 = .ok (.getfield 12, 3) := by decide +kernel
theorem dX0_countKeys_4 : decode cX0_countKeys 4 = .ok (.iconst 0, 1) := by decide +kernel
theorem dX0_countKeys_5 : decode cX0_countKeys 5 = .ok (.putfield 31, 3) := by decide +kernel
theorem dX0_countKeys_8 : decode cX0_countKeys 8 = .ok (.aload_n 1, 1) := by decide +kernel
theorem dX0_countKeys_9 : decode cX0_countKeys 9 = .ok (.aload_n 0, 1) := by decide +kernel
theorem dX0_countKeys_10 : decode cX0_countKeys 10 = .ok (.getfield 12, 3) := by decide +kernel
theorem dX0_countKeys_13 : decode cX0_countKeys 13 = .ok (.invokevirtual 35, 3) := by decide +kernel
theorem dX0_countKeys_16 : decode cX0_countKeys 16 = .ok (.aload_n 2, 1) := by decide +kernel
theorem dX0_countKeys_17 : decode cX0_countKeys 17 = .ok (.aload_n 0, 1) := by decide +kernel
theorem dX0_countKeys_18 : decode cX0_countKeys 18 = .ok (.getfield 12, 3) := by decide +kernel
theorem dX0_countKeys_21 : decode cX0_countKeys 21 = .ok (.invokevirtual 35, 3) := by decide +kernel
theorem dX0_countKeys_24 : decode cX0_countKeys 24 = .ok (.aload_n 0, 1) := by decide +kernel
theorem dX0_countKeys_25 : decode cX0_countKeys 25 = .ok (.getfield 12, 3) := by decide +kernel
theorem dX0_countKeys_28 : decode cX0_countKeys 28 = .ok (.getfield 31, 3) := by decide +kernel
theorem dX0_countKeys_31 : decode cX0_countKeys 31 = .ok (.ireturn, 1) := by decide +kernel
theorem dX0_countCommonKeys_0 : decode cX0_countCommonKeys 0 = .ok (.aload_n 0, 1) := by decide +kernel
theorem dX0_countCommonKeys_1 : decode cX0_countCommonKeys 1 = .ok (.aload_n 1, 1) := by decide +kernel
theorem dX0_countCommonKeys_2 : decode cX0_countCommonKeys 2 = .ok (.aload_n 1, 1) := by decide +kernel
theorem dX0_countCommonKeys_3 : decode cX0_countCommonKeys 3 = .ok (.invokevirtual 39, 3) := by decide +kernel
theorem dX0_countCommonKeys_6 : decode cX0_countCommonKeys 6 = .ok (.aload_n 0, 1) := by decide +kernel
theorem dX0_countCommonKeys_7 : decode cX0_countCommonKeys 7 = .ok (.aload_n 2, 1) := by decide +kernel
theorem dX0_countCommonKeys_8 : decode cX0_countCommonKeys 8 = .ok (.aload_n 2, 1) := by decide +kernel
theorem dX0_countCommonKeys_9 : decode cX0_countCommonKeys 9 = .ok (.invokevirtual 39, 3) := by decide +kernel
theorem dX0_countCommonKeys_12 : decode cX0_countCommonKeys 12 = .ok (.iadd, 1) := by decide +kernel
theorem dX0_countCommonKeys_13 : decode cX0_countCommonKeys 13 = .ok (.aload_n 0, 1) := by decide +kernel
theorem dX0_countCommonKeys_14 : decode cX0_countCommonKeys 14 = .ok (.aload_n 1, 1) := by decide +kernel
theorem dX0_countCommonKeys_15 : decode cX0_countCommonKeys 15 = .ok (.aload_n 2, 1) := by decide +kernel
theorem dX0_countCommonKeys_16 : decode cX0_countCommonKeys 16 = .ok (.invokevirtual 39, 3) := by decide +kernel
theorem dX0_countCommonKeys_19 : decode cX0_countCommonKeys 19 = .ok (.isub, 1) := by decide +kernel
theorem dX0_countCommonKeys_20 : decode cX0_countCommonKeys 20 = .ok (.ireturn, 1) := by decide +kernel
theorem dX0_hasRoom_0 : decode cX0_hasRoom 0 = .ok (.aload_n 0, 1) := by decide +kernel
theorem dX0_hasRoom_1 : decode cX0_hasRoom 1 = .ok (.aload_n 2, 1) := by decide +kernel
theorem dX0_hasRoom_2 : decode cX0_hasRoom 2 = .ok (.aload_n 3, 1) := by decide +kernel
theorem dX0_hasRoom_3 : decode cX0_hasRoom 3 = .ok (.invokevirtual 39, 3) := by decide +kernel
theorem dX0_hasRoom_6 : decode cX0_hasRoom 6 = .ok (.pop, 1) := by decide +kernel
theorem dX0_hasRoom_7 : decode cX0_hasRoom 7 = .ok (.aload_n 1, 1) := by decide +kernel
theorem dX0_hasRoom_8 : decode cX0_hasRoom 8 = .ok (.getfield 31, 3) := by decide +kernel
theorem dX0_hasRoom_11 : decode cX0_hasRoom 11 = .ok (.aload_n 0, 1) := by decide +kernel
theorem dX0_hasRoom_12 : decode cX0_hasRoom 12 = .ok (.getfield 12, 3) := by decide +kernel
theorem dX0_hasRoom_15 : decode cX0_hasRoom 15 = .ok (.aload_n 1, 1) := by decide +kernel
theorem dX0_hasRoom_16 : decode cX0_hasRoom 16 = .ok (.invokevirtual 43, 3) := by decide +kernel
theorem dX0_hasRoom_19 : decode cX0_hasRoom 19 = .ok (.iadd, 1) := by decide +kernel
theorem dX0_hasRoom_20 : decode cX0_hasRoom 20 = .ok (.bipush 60, 2) := by decide +kernel
theorem dX0_hasRoom_22 : decode cX0_hasRoom 22 = .ok (.if_icmp .gt 7, 3) := by decide +kernel
theorem dX0_hasRoom_25 : decode cX0_hasRoom 25 = .ok (.iconst 1, 1) := by decide +kernel
theorem dX0_hasRoom_26 : decode cX0_hasRoom 26 = .ok (.goto 4, 3) := by decide +kernel
theorem dX0_hasRoom_29 : decode cX0_hasRoom 29 = .ok (.iconst 0, 1) := by decide +kernel
theorem dX0_hasRoom_30 : decode cX0_hasRoom 30 = .ok (.ireturn, 1) := by decide +kernel
theorem dX0_turnRound_0 : decode cX0_turnRound 0 = .ok (.aload_n 0, 1) := by decide +kernel
theorem dX0_turnRound_1 : decode cX0_turnRound 1 = .ok (.getfield 12, 3) := by decide +kernel
theorem dX0_turnRound_4 : decode cX0_turnRound 4 = .ok (.iconst 0, 1) := by decide +kernel
theorem dX0_turnRound_5 : decode cX0_turnRound 5 = .ok (.putfield 31, 3) := by decide +kernel
theorem dX0_turnRound_8 : decode cX0_turnRound 8 = .ok (.aload_n 1, 1) := by decide +kernel
theorem dX0_turnRound_9 : decode cX0_turnRound 9 = .ok (.aload_n 0, 1) := by decide +kernel
theorem dX0_turnRound_10 : decode cX0_turnRound 10 = .ok (.getfield 12, 3) := by decide +kernel
theorem dX0_turnRound_13 : decode cX0_turnRound 13 = .ok (.invokevirtual 35, 3) := by decide +kernel
theorem dX0_turnRound_16 : decode cX0_turnRound 16 = .ok (.aload_n 3, 1) := by decide +kernel
theorem dX0_turnRound_17 : decode cX0_turnRound 17 = .ok (.iconst 0, 1) := by decide +kernel
theorem dX0_turnRound_18 : decode cX0_turnRound 18 = .ok (.putfield 47, 3) := by decide +kernel
theorem dX0_turnRound_21 : decode cX0_turnRound 21 = .ok (.iconst 0, 1) := by decide +kernel
theorem dX0_turnRound_22 : decode cX0_turnRound 22 = .ok (.istore 4, 2) := by decide +kernel
theorem dX0_turnRound_24 : decode cX0_turnRound 24 = .ok (.iload 4, 2) := by decide +kernel
theorem dX0_turnRound_26 : decode cX0_turnRound 26 = .ok (.aload_n 0, 1) := by decide +kernel
theorem dX0_turnRound_27 : decode cX0_turnRound 27 = .ok (.getfield 12, 3) := by decide +kernel
theorem dX0_turnRound_30 : decode cX0_turnRound 30 = .ok (.getfield 31, 3) := by decide +kernel
theorem dX0_turnRound_33 : decode cX0_turnRound 33 = .ok (.if_icmp .ge 61, 3) := by decide +kernel
theorem dX0_turnRound_36 : decode cX0_turnRound 36 = .ok (.aload_n 0, 1) := by decide +kernel
theorem dX0_turnRound_37 : decode cX0_turnRound 37 = .ok (.getfield 12, 3) := by decide +kernel
theorem dX0_turnRound_40 : decode cX0_turnRound 40 = .ok (.getfield 48, 3) := by decide +kernel
theorem dX0_turnRound_43 : decode cX0_turnRound 43 = .ok (.iload 4, 2) := by decide +kernel
theorem dX0_turnRound_45 : decode cX0_turnRound 45 = .ok (.iaload, 1) := by decide +kernel
theorem dX0_turnRound_46 : decode cX0_turnRound 46 = .ok (.istore 5, 2) := by decide +kernel
theorem dX0_turnRound_48 : decode cX0_turnRound 48 = .ok (.aload_n 2, 1) := by decide +kernel
theorem dX0_turnRound_49 : decode cX0_turnRound 49 = .ok (.iload 5, 2) := by decide +kernel
theorem dX0_turnRound_51 : decode cX0_turnRound 51 = .ok (.invokevirtual 52, 3) := by decide +kernel
theorem dX0_turnRound_54 : decode cX0_turnRound 54 = .ok (.istore 6, 2) := by decide +kernel
theorem dX0_turnRound_56 : decode cX0_turnRound 56 = .ok (.iload 6, 2) := by decide +kernel
theorem dX0_turnRound_58 : decode cX0_turnRound 58 = .ok (.ifCond .ge 15, 3) := by decide +kernel
theorem dX0_turnRound_61 : decode cX0_turnRound 61 = .ok (.aload_n 3, 1) := by decide +kernel
theorem dX0_turnRound_62 : decode cX0_turnRound 62 = .ok (.bipush 114, 2) := by decide +kernel
theorem dX0_turnRound_64 : decode cX0_turnRound 64 = .ok (.iload 5, 2) := by decide +kernel
theorem dX0_turnRound_66 : decode cX0_turnRound 66 = .ok (.iconst 0, 1) := by decide +kernel
theorem dX0_turnRound_67 : decode cX0_turnRound 67 = .ok (.invokevirtual 56, 3) := by decide +kernel
theorem dX0_turnRound_70 : decode cX0_turnRound 70 = .ok (.goto 18, 3) := by decide +kernel
theorem dX0_turnRound_73 : decode cX0_turnRound 73 = .ok (.aload_n 3, 1) := by decide +kernel
theorem dX0_turnRound_74 : decode cX0_turnRound 74 = .ok (.bipush 112, 2) := by decide +kernel
theorem dX0_turnRound_76 : decode cX0_turnRound 76 = .ok (.iload 5, 2) := by decide +kernel
theorem dX0_turnRound_78 : decode cX0_turnRound 78 = .ok (.aload_n 2, 1) := by decide +kernel
theorem dX0_turnRound_79 : decode cX0_turnRound 79 = .ok (.getfield 60, 3) := by decide +kernel
theorem dX0_turnRound_82 : decode cX0_turnRound 82 = .ok (.iload 6, 2) := by decide +kernel
theorem dX0_turnRound_84 : decode cX0_turnRound 84 = .ok (.iaload, 1) := by decide +kernel
theorem dX0_turnRound_85 : decode cX0_turnRound 85 = .ok (.invokevirtual 56, 3) := by decide +kernel
theorem dX0_turnRound_88 : decode cX0_turnRound 88 = .ok (.iinc 4 1, 3) := by decide +kernel
theorem dX0_turnRound_91 : decode cX0_turnRound 91 = .ok (.goto (-67), 3) := by decide +kernel
theorem dX0_turnRound_94 : decode cX0_turnRound 94 = .ok (.return_, 1) := by decide +kernel
theorem dX0_areNearKeysSound_0 : decode cX0_areNearKeysSound 0 = .ok (.iconst 0, 1) := by decide +kernel
theorem dX0_areNearKeysSound_1 : decode cX0_areNearKeysSound 1 = .ok (.istore_n 2, 1) := by decide +kernel
theorem dX0_areNearKeysSound_2 : decode cX0_areNearKeysSound 2 = .ok (.iload_n 2, 1) := by decide +kernel
theorem dX0_areNearKeysSound_3 : decode cX0_areNearKeysSound 3 = .ok (.aload_n 1, 1) := by decide +kernel
theorem dX0_areNearKeysSound_4 : decode cX0_areNearKeysSound 4 = .ok (.getfield 31, 3) := by decide +kernel
theorem dX0_areNearKeysSound_7 : decode cX0_areNearKeysSound 7 = .ok (.if_icmp .ge 75, 3) := by decide +kernel
theorem dX0_areNearKeysSound_10 : decode cX0_areNearKeysSound 10 = .ok (.aload_n 1, 1) := by decide +kernel
theorem dX0_areNearKeysSound_11 : decode cX0_areNearKeysSound 11 = .ok (.getfield 48, 3) := by decide +kernel
theorem dX0_areNearKeysSound_14 : decode cX0_areNearKeysSound 14 = .ok (.iload_n 2, 1) := by decide +kernel
theorem dX0_areNearKeysSound_15 : decode cX0_areNearKeysSound 15 = .ok (.iaload, 1) := by decide +kernel
theorem dX0_areNearKeysSound_16 : decode cX0_areNearKeysSound 16 = .ok (.istore_n 3, 1) := by decide +kernel
theorem dX0_areNearKeysSound_17 : decode cX0_areNearKeysSound 17 = .ok (.iload_n 2, 1) := by decide +kernel
theorem dX0_areNearKeysSound_18 : decode cX0_areNearKeysSound 18 = .ok (.ifCond .le 17, 3) := by decide +kernel
theorem dX0_areNearKeysSound_21 : decode cX0_areNearKeysSound 21 = .ok (.aload_n 1, 1) := by decide +kernel
theorem dX0_areNearKeysSound_22 : decode cX0_areNearKeysSound 22 = .ok (.getfield 48, 3) := by decide +kernel
theorem dX0_areNearKeysSound_25 : decode cX0_areNearKeysSound 25 = .ok (.iload_n 2, 1) := by decide +kernel
theorem dX0_areNearKeysSound_26 : decode cX0_areNearKeysSound 26 = .ok (.iconst 1, 1) := by decide +kernel
theorem dX0_areNearKeysSound_27 : decode cX0_areNearKeysSound 27 = .ok (.isub, 1) := by decide +kernel
theorem dX0_areNearKeysSound_28 : decode cX0_areNearKeysSound 28 = .ok (.iaload, 1) := by decide +kernel
theorem dX0_areNearKeysSound_29 : decode cX0_areNearKeysSound 29 = .ok (.iload_n 3, 1) := by decide +kernel
theorem dX0_areNearKeysSound_30 : decode cX0_areNearKeysSound 30 = .ok (.if_icmp .lt 5, 3) := by decide +kernel
theorem dX0_areNearKeysSound_33 : decode cX0_areNearKeysSound 33 = .ok (.iconst 0, 1) := by decide +kernel
theorem dX0_areNearKeysSound_34 : decode cX0_areNearKeysSound 34 = .ok (.ireturn, 1) := by decide +kernel
theorem dX0_areNearKeysSound_35 : decode cX0_areNearKeysSound 35 = .ok (.iconst (-1), 1) := by decide +kernel
theorem dX0_areNearKeysSound_36 : decode cX0_areNearKeysSound 36 = .ok (.istore 4, 2) := by decide +kernel
theorem dX0_areNearKeysSound_38 : decode cX0_areNearKeysSound 38 = .ok (.iload 4, 2) := by decide +kernel
theorem dX0_areNearKeysSound_40 : decode cX0_areNearKeysSound 40 = .ok (.iconst 1, 1) := by decide +kernel
theorem dX0_areNearKeysSound_41 : decode cX0_areNearKeysSound 41 = .ok (.if_icmp .gt 35, 3) := by decide +kernel
theorem dX0_areNearKeysSound_44 : decode cX0_areNearKeysSound 44 = .ok (.aload_n 1, 1) := by decide +kernel
theorem dX0_areNearKeysSound_45 : decode cX0_areNearKeysSound 45 = .ok (.iload_n 3, 1) := by decide +kernel
theorem dX0_areNearKeysSound_46 : decode cX0_areNearKeysSound 46 = .ok (.iload 4, 2) := by decide +kernel
theorem dX0_areNearKeysSound_48 : decode cX0_areNearKeysSound 48 = .ok (.iadd, 1) := by decide +kernel
theorem dX0_areNearKeysSound_49 : decode cX0_areNearKeysSound 49 = .ok (.iconst 1, 1) := by decide +kernel
theorem dX0_areNearKeysSound_50 : decode cX0_areNearKeysSound 50 = .ok (.invokestatic 63, 3) := by decide +kernel
theorem dX0_areNearKeysSound_53 : decode cX0_areNearKeysSound 53 = .ok (.ifCond .eq 15, 3) := by decide +kernel
theorem dX0_areNearKeysSound_56 : decode cX0_areNearKeysSound 56 = .ok (.aload_n 1, 1) := by decide +kernel
theorem dX0_areNearKeysSound_57 : decode cX0_areNearKeysSound 57 = .ok (.iload_n 3, 1) := by decide +kernel
theorem dX0_areNearKeysSound_58 : decode cX0_areNearKeysSound 58 = .ok (.iload 4, 2) := by decide +kernel
theorem dX0_areNearKeysSound_60 : decode cX0_areNearKeysSound 60 = .ok (.iadd, 1) := by decide +kernel
theorem dX0_areNearKeysSound_61 : decode cX0_areNearKeysSound 61 = .ok (.iconst 0, 1) := by decide +kernel
theorem dX0_areNearKeysSound_62 : decode cX0_areNearKeysSound 62 = .ok (.invokestatic 63, 3) := by decide +kernel
theorem dX0_areNearKeysSound_65 : decode cX0_areNearKeysSound 65 = .ok (.ifCond .ne 5, 3) := by decide +kernel
theorem dX0_areNearKeysSound_68 : decode cX0_areNearKeysSound 68 = .ok (.iconst 0, 1) := by decide +kernel
theorem dX0_areNearKeysSound_69 : decode cX0_areNearKeysSound 69 = .ok (.ireturn, 1) := by decide +kernel
theorem dX0_areNearKeysSound_70 : decode cX0_areNearKeysSound 70 = .ok (.iinc 4 1, 3) := by decide +kernel
theorem dX0_areNearKeysSound_73 : decode cX0_areNearKeysSound 73 = .ok (.goto (-35), 3) := by decide +kernel
theorem dX0_areNearKeysSound_76 : decode cX0_areNearKeysSound 76 = .ok (.iinc 2 1, 3) := by decide +kernel
theorem dX0_areNearKeysSound_79 : decode cX0_areNearKeysSound 79 = .ok (.goto (-77), 3) := by decide +kernel
theorem dX0_areNearKeysSound_82 : decode cX0_areNearKeysSound 82 = .ok (.iconst 1, 1) := by decide +kernel
theorem dX0_areNearKeysSound_83 : decode cX0_areNearKeysSound 83 = .ok (.ireturn, 1) := by decide +kernel
theorem dX0_isSplitSound_0 : decode cX0_isSplitSound 0 = .ok (.aload_n 0, 1) := by decide +kernel
theorem dX0_isSplitSound_1 : decode cX0_isSplitSound 1 = .ok (.iload_n 1, 1) := by decide +kernel
theorem dX0_isSplitSound_2 : decode cX0_isSplitSound 2 = .ok (.iload_n 2, 1) := by decide +kernel
theorem dX0_isSplitSound_3 : decode cX0_isSplitSound 3 = .ok (.ifCond .eq 8, 3) := by decide +kernel
theorem dX0_isSplitSound_6 : decode cX0_isSplitSound 6 = .ok (.bipush 102, 2) := by decide +kernel
theorem dX0_isSplitSound_8 : decode cX0_isSplitSound 8 = .ok (.goto 5, 3) := by decide +kernel
theorem dX0_isSplitSound_11 : decode cX0_isSplitSound 11 = .ok (.bipush 108, 2) := by decide +kernel
theorem dX0_isSplitSound_13 : decode cX0_isSplitSound 13 = .ok (.iconst 0, 1) := by decide +kernel
theorem dX0_isSplitSound_14 : decode cX0_isSplitSound 14 = .ok (.aload_n 0, 1) := by decide +kernel
theorem dX0_isSplitSound_15 : decode cX0_isSplitSound 15 = .ok (.getfield 31, 3) := by decide +kernel
theorem dX0_isSplitSound_18 : decode cX0_isSplitSound 18 = .ok (.invokevirtual 67, 3) := by decide +kernel
theorem dX0_isSplitSound_21 : decode cX0_isSplitSound 21 = .ok (.istore_n 3, 1) := by decide +kernel
theorem dX0_isSplitSound_22 : decode cX0_isSplitSound 22 = .ok (.aload_n 0, 1) := by decide +kernel
theorem dX0_isSplitSound_23 : decode cX0_isSplitSound 23 = .ok (.iload_n 1, 1) := by decide +kernel
theorem dX0_isSplitSound_24 : decode cX0_isSplitSound 24 = .ok (.iload_n 2, 1) := by decide +kernel
theorem dX0_isSplitSound_25 : decode cX0_isSplitSound 25 = .ok (.ifCond .eq 8, 3) := by decide +kernel
theorem dX0_isSplitSound_28 : decode cX0_isSplitSound 28 = .ok (.bipush 104, 2) := by decide +kernel
theorem dX0_isSplitSound_30 : decode cX0_isSplitSound 30 = .ok (.goto 5, 3) := by decide +kernel
theorem dX0_isSplitSound_33 : decode cX0_isSplitSound 33 = .ok (.bipush 99, 2) := by decide +kernel
theorem dX0_isSplitSound_35 : decode cX0_isSplitSound 35 = .ok (.iconst 0, 1) := by decide +kernel
theorem dX0_isSplitSound_36 : decode cX0_isSplitSound 36 = .ok (.aload_n 0, 1) := by decide +kernel
theorem dX0_isSplitSound_37 : decode cX0_isSplitSound 37 = .ok (.getfield 31, 3) := by decide +kernel
theorem dX0_isSplitSound_40 : decode cX0_isSplitSound 40 = .ok (.invokevirtual 67, 3) := by decide +kernel
theorem dX0_isSplitSound_43 : decode cX0_isSplitSound 43 = .ok (.istore 4, 2) := by decide +kernel
theorem dX0_isSplitSound_45 : decode cX0_isSplitSound 45 = .ok (.iload_n 3, 1) := by decide +kernel
theorem dX0_isSplitSound_46 : decode cX0_isSplitSound 46 = .ok (.iconst 1, 1) := by decide +kernel
theorem dX0_isSplitSound_47 : decode cX0_isSplitSound 47 = .ok (.iadd, 1) := by decide +kernel
theorem dX0_isSplitSound_48 : decode cX0_isSplitSound 48 = .ok (.istore 5, 2) := by decide +kernel
theorem dX0_isSplitSound_50 : decode cX0_isSplitSound 50 = .ok (.iload 4, 2) := by decide +kernel
theorem dX0_isSplitSound_52 : decode cX0_isSplitSound 52 = .ok (.iload 5, 2) := by decide +kernel
theorem dX0_isSplitSound_54 : decode cX0_isSplitSound 54 = .ok (.aload_n 0, 1) := by decide +kernel
theorem dX0_isSplitSound_55 : decode cX0_isSplitSound 55 = .ok (.getfield 31, 3) := by decide +kernel
theorem dX0_isSplitSound_58 : decode cX0_isSplitSound 58 = .ok (.if_icmp .ge 8, 3) := by decide +kernel
theorem dX0_isSplitSound_61 : decode cX0_isSplitSound 61 = .ok (.iload 5, 2) := by decide +kernel
theorem dX0_isSplitSound_63 : decode cX0_isSplitSound 63 = .ok (.goto 4, 3) := by decide +kernel
theorem dX0_isSplitSound_66 : decode cX0_isSplitSound 66 = .ok (.iconst (-1), 1) := by decide +kernel
theorem dX0_isSplitSound_67 : decode cX0_isSplitSound 67 = .ok (.if_icmp .eq 5, 3) := by decide +kernel
theorem dX0_isSplitSound_70 : decode cX0_isSplitSound 70 = .ok (.iconst 0, 1) := by decide +kernel
theorem dX0_isSplitSound_71 : decode cX0_isSplitSound 71 = .ok (.ireturn, 1) := by decide +kernel
theorem dX0_isSplitSound_72 : decode cX0_isSplitSound 72 = .ok (.iload_n 3, 1) := by decide +kernel
theorem dX0_isSplitSound_73 : decode cX0_isSplitSound 73 = .ok (.ifCond .lt 17, 3) := by decide +kernel
theorem dX0_isSplitSound_76 : decode cX0_isSplitSound 76 = .ok (.aload_n 0, 1) := by decide +kernel
theorem dX0_isSplitSound_77 : decode cX0_isSplitSound 77 = .ok (.getfield 48, 3) := by decide +kernel
theorem dX0_isSplitSound_80 : decode cX0_isSplitSound 80 = .ok (.iload_n 3, 1) := by decide +kernel
theorem dX0_isSplitSound_81 : decode cX0_isSplitSound 81 = .ok (.iaload, 1) := by decide +kernel
theorem dX0_isSplitSound_82 : decode cX0_isSplitSound 82 = .ok (.iload_n 1, 1) := by decide +kernel
theorem dX0_isSplitSound_83 : decode cX0_isSplitSound 83 = .ok (.iload_n 2, 1) := by decide +kernel
theorem dX0_isSplitSound_84 : decode cX0_isSplitSound 84 = .ok (.invokestatic 71, 3) := by decide +kernel
theorem dX0_isSplitSound_87 : decode cX0_isSplitSound 87 = .ok (.ifCond .eq 27, 3) := by decide +kernel
theorem dX0_isSplitSound_90 : decode cX0_isSplitSound 90 = .ok (.iload 4, 2) := by decide +kernel
theorem dX0_isSplitSound_92 : decode cX0_isSplitSound 92 = .ok (.ifCond .lt 18, 3) := by decide +kernel
theorem dX0_isSplitSound_95 : decode cX0_isSplitSound 95 = .ok (.aload_n 0, 1) := by decide +kernel
theorem dX0_isSplitSound_96 : decode cX0_isSplitSound 96 = .ok (.getfield 48, 3) := by decide +kernel
theorem dX0_isSplitSound_99 : decode cX0_isSplitSound 99 = .ok (.iload 4, 2) := by decide +kernel
theorem dX0_isSplitSound_101 : decode cX0_isSplitSound 101 = .ok (.iaload, 1) := by decide +kernel
theorem dX0_isSplitSound_102 : decode cX0_isSplitSound 102 = .ok (.iload_n 1, 1) := by decide +kernel
theorem dX0_isSplitSound_103 : decode cX0_isSplitSound 103 = .ok (.iload_n 2, 1) := by decide +kernel
theorem dX0_isSplitSound_104 : decode cX0_isSplitSound 104 = .ok (.invokestatic 71, 3) := by decide +kernel
theorem dX0_isSplitSound_107 : decode cX0_isSplitSound 107 = .ok (.ifCond .ne 7, 3) := by decide +kernel
theorem dX0_isSplitSound_110 : decode cX0_isSplitSound 110 = .ok (.iconst 1, 1) := by decide +kernel
theorem dX0_isSplitSound_111 : decode cX0_isSplitSound 111 = .ok (.goto 4, 3) := by decide +kernel
theorem dX0_isSplitSound_114 : decode cX0_isSplitSound 114 = .ok (.iconst 0, 1) := by decide +kernel
theorem dX0_isSplitSound_115 : decode cX0_isSplitSound 115 = .ok (.ireturn, 1) := by decide +kernel
theorem dX0_isBelow_0 : decode cX0_isBelow 0 = .ok (.iload_n 2, 1) := by decide +kernel
theorem dX0_isBelow_1 : decode cX0_isBelow 1 = .ok (.ifCond .eq 16, 3) := by decide +kernel
theorem dX0_isBelow_4 : decode cX0_isBelow 4 = .ok (.iload_n 0, 1) := by decide +kernel
theorem dX0_isBelow_5 : decode cX0_isBelow 5 = .ok (.iload_n 1, 1) := by decide +kernel
theorem dX0_isBelow_6 : decode cX0_isBelow 6 = .ok (.if_icmp .gt 7, 3) := by decide +kernel
theorem dX0_isBelow_9 : decode cX0_isBelow 9 = .ok (.iconst 1, 1) := by decide +kernel
theorem dX0_isBelow_10 : decode cX0_isBelow 10 = .ok (.goto 17, 3) := by decide +kernel
theorem dX0_isBelow_13 : decode cX0_isBelow 13 = .ok (.iconst 0, 1) := by decide +kernel
theorem dX0_isBelow_14 : decode cX0_isBelow 14 = .ok (.goto 13, 3) := by decide +kernel
theorem dX0_isBelow_17 : decode cX0_isBelow 17 = .ok (.iload_n 0, 1) := by decide +kernel
theorem dX0_isBelow_18 : decode cX0_isBelow 18 = .ok (.iload_n 1, 1) := by decide +kernel
theorem dX0_isBelow_19 : decode cX0_isBelow 19 = .ok (.if_icmp .ge 7, 3) := by decide +kernel
theorem dX0_isBelow_22 : decode cX0_isBelow 22 = .ok (.iconst 1, 1) := by decide +kernel
theorem dX0_isBelow_23 : decode cX0_isBelow 23 = .ok (.goto 4, 3) := by decide +kernel
theorem dX0_isBelow_26 : decode cX0_isBelow 26 = .ok (.iconst 0, 1) := by decide +kernel
theorem dX0_isBelow_27 : decode cX0_isBelow 27 = .ok (.ireturn, 1) := by decide +kernel
theorem dX0_arePollsSound_0 : decode cX0_arePollsSound 0 = .ok (.aload_n 0, 1) := by decide +kernel
theorem dX0_arePollsSound_1 : decode cX0_arePollsSound 1 = .ok (.aload_n 1, 1) := by decide +kernel
theorem dX0_arePollsSound_2 : decode cX0_arePollsSound 2 = .ok (.iconst 0, 1) := by decide +kernel
theorem dX0_arePollsSound_3 : decode cX0_arePollsSound 3 = .ok (.invokevirtual 75, 3) := by decide +kernel
theorem dX0_arePollsSound_6 : decode cX0_arePollsSound 6 = .ok (.ifCond .eq 16, 3) := by decide +kernel
theorem dX0_arePollsSound_9 : decode cX0_arePollsSound 9 = .ok (.aload_n 0, 1) := by decide +kernel
theorem dX0_arePollsSound_10 : decode cX0_arePollsSound 10 = .ok (.aload_n 1, 1) := by decide +kernel
theorem dX0_arePollsSound_11 : decode cX0_arePollsSound 11 = .ok (.iconst 1, 1) := by decide +kernel
theorem dX0_arePollsSound_12 : decode cX0_arePollsSound 12 = .ok (.invokevirtual 75, 3) := by decide +kernel
theorem dX0_arePollsSound_15 : decode cX0_arePollsSound 15 = .ok (.ifCond .eq 7, 3) := by decide +kernel
theorem dX0_arePollsSound_18 : decode cX0_arePollsSound 18 = .ok (.iconst 1, 1) := by decide +kernel
theorem dX0_arePollsSound_19 : decode cX0_arePollsSound 19 = .ok (.goto 4, 3) := by decide +kernel
theorem dX0_arePollsSound_22 : decode cX0_arePollsSound 22 = .ok (.iconst 0, 1) := by decide +kernel
theorem dX0_arePollsSound_23 : decode cX0_arePollsSound 23 = .ok (.ireturn, 1) := by decide +kernel
theorem dX0_arePollsSoundFrom_0 : decode cX0_arePollsSoundFrom 0 = .ok (.aload_n 0, 1) := by decide +kernel
theorem dX0_arePollsSoundFrom_1 : decode cX0_arePollsSoundFrom 1 = .ok (.getfield 18, 3) := by decide +kernel
theorem dX0_arePollsSoundFrom_4 : decode cX0_arePollsSoundFrom 4 = .ok (.aload_n 1, 1) := by decide +kernel
theorem dX0_arePollsSoundFrom_5 : decode cX0_arePollsSoundFrom 5 = .ok (.invokevirtual 79, 3) := by decide +kernel
theorem dX0_arePollsSoundFrom_8 : decode cX0_arePollsSoundFrom 8 = .ok (.iconst 0, 1) := by decide +kernel
theorem dX0_arePollsSoundFrom_9 : decode cX0_arePollsSoundFrom 9 = .ok (.istore_n 3, 1) := by decide +kernel
theorem dX0_arePollsSoundFrom_10 : decode cX0_arePollsSoundFrom 10 = .ok (.iload_n 3, 1) := by decide +kernel
theorem dX0_arePollsSoundFrom_11 : decode cX0_arePollsSoundFrom 11 = .ok (.aload_n 1, 1) := by decide +kernel
theorem dX0_arePollsSoundFrom_12 : decode cX0_arePollsSoundFrom 12 = .ok (.getfield 31, 3) := by decide +kernel
theorem dX0_arePollsSoundFrom_15 : decode cX0_arePollsSoundFrom 15 = .ok (.if_icmp .ge 84, 3) := by decide +kernel
theorem dX0_arePollsSoundFrom_18 : decode cX0_arePollsSoundFrom 18 = .ok (.aload_n 0, 1) := by decide +kernel
theorem dX0_arePollsSoundFrom_19 : decode cX0_arePollsSoundFrom 19 = .ok (.getfield 18, 3) := by decide +kernel
theorem dX0_arePollsSoundFrom_22 : decode cX0_arePollsSoundFrom 22 = .ok (.getfield 31, 3) := by decide +kernel
theorem dX0_arePollsSoundFrom_25 : decode cX0_arePollsSoundFrom 25 = .ok (.aload_n 1, 1) := by decide +kernel
theorem dX0_arePollsSoundFrom_26 : decode cX0_arePollsSoundFrom 26 = .ok (.getfield 31, 3) := by decide +kernel
theorem dX0_arePollsSoundFrom_29 : decode cX0_arePollsSoundFrom 29 = .ok (.iload_n 3, 1) := by decide +kernel
theorem dX0_arePollsSoundFrom_30 : decode cX0_arePollsSoundFrom 30 = .ok (.isub, 1) := by decide +kernel
theorem dX0_arePollsSoundFrom_31 : decode cX0_arePollsSoundFrom 31 = .ok (.if_icmp .eq 5, 3) := by decide +kernel
theorem dX0_arePollsSoundFrom_34 : decode cX0_arePollsSoundFrom 34 = .ok (.iconst 0, 1) := by decide +kernel
theorem dX0_arePollsSoundFrom_35 : decode cX0_arePollsSoundFrom 35 = .ok (.ireturn, 1) := by decide +kernel
theorem dX0_arePollsSoundFrom_36 : decode cX0_arePollsSoundFrom 36 = .ok (.iload_n 2, 1) := by decide +kernel
theorem dX0_arePollsSoundFrom_37 : decode cX0_arePollsSoundFrom 37 = .ok (.ifCond .eq 15, 3) := by decide +kernel
theorem dX0_arePollsSoundFrom_40 : decode cX0_arePollsSoundFrom 40 = .ok (.aload_n 0, 1) := by decide +kernel
theorem dX0_arePollsSoundFrom_41 : decode cX0_arePollsSoundFrom 41 = .ok (.getfield 18, 3) := by decide +kernel
theorem dX0_arePollsSoundFrom_44 : decode cX0_arePollsSoundFrom 44 = .ok (.getfield 31, 3) := by decide +kernel
theorem dX0_arePollsSoundFrom_47 : decode cX0_arePollsSoundFrom 47 = .ok (.iconst 1, 1) := by decide +kernel
theorem dX0_arePollsSoundFrom_48 : decode cX0_arePollsSoundFrom 48 = .ok (.isub, 1) := by decide +kernel
theorem dX0_arePollsSoundFrom_49 : decode cX0_arePollsSoundFrom 49 = .ok (.goto 4, 3) := by decide +kernel
theorem dX0_arePollsSoundFrom_52 : decode cX0_arePollsSoundFrom 52 = .ok (.iconst 0, 1) := by decide +kernel
theorem dX0_arePollsSoundFrom_53 : decode cX0_arePollsSoundFrom 53 = .ok (.istore 4, 2) := by decide +kernel
theorem dX0_arePollsSoundFrom_55 : decode cX0_arePollsSoundFrom 55 = .ok (.aload_n 0, 1) := by decide +kernel
theorem dX0_arePollsSoundFrom_56 : decode cX0_arePollsSoundFrom 56 = .ok (.getfield 18, 3) := by decide +kernel
theorem dX0_arePollsSoundFrom_59 : decode cX0_arePollsSoundFrom 59 = .ok (.iload 4, 2) := by decide +kernel
theorem dX0_arePollsSoundFrom_61 : decode cX0_arePollsSoundFrom 61 = .ok (.aload_n 1, 1) := by decide +kernel
theorem dX0_arePollsSoundFrom_62 : decode cX0_arePollsSoundFrom 62 = .ok (.iload_n 2, 1) := by decide +kernel
theorem dX0_arePollsSoundFrom_63 : decode cX0_arePollsSoundFrom 63 = .ok (.ifCond .eq 8, 3) := by decide +kernel
theorem dX0_arePollsSoundFrom_66 : decode cX0_arePollsSoundFrom 66 = .ok (.iload 4, 2) := by decide +kernel
theorem dX0_arePollsSoundFrom_68 : decode cX0_arePollsSoundFrom 68 = .ok (.goto 4, 3) := by decide +kernel
theorem dX0_arePollsSoundFrom_71 : decode cX0_arePollsSoundFrom 71 = .ok (.iload_n 3, 1) := by decide +kernel
theorem dX0_arePollsSoundFrom_72 : decode cX0_arePollsSoundFrom 72 = .ok (.invokevirtual 82, 3) := by decide +kernel
theorem dX0_arePollsSoundFrom_75 : decode cX0_arePollsSoundFrom 75 = .ok (.ifCond .ne 5, 3) := by decide +kernel
theorem dX0_arePollsSoundFrom_78 : decode cX0_arePollsSoundFrom 78 = .ok (.iconst 0, 1) := by decide +kernel
theorem dX0_arePollsSoundFrom_79 : decode cX0_arePollsSoundFrom 79 = .ok (.ireturn, 1) := by decide +kernel
theorem dX0_arePollsSoundFrom_80 : decode cX0_arePollsSoundFrom 80 = .ok (.aload_n 0, 1) := by decide +kernel
theorem dX0_arePollsSoundFrom_81 : decode cX0_arePollsSoundFrom 81 = .ok (.getfield 18, 3) := by decide +kernel
theorem dX0_arePollsSoundFrom_84 : decode cX0_arePollsSoundFrom 84 = .ok (.iload 4, 2) := by decide +kernel
theorem dX0_arePollsSoundFrom_86 : decode cX0_arePollsSoundFrom 86 = .ok (.iload 4, 2) := by decide +kernel
theorem dX0_arePollsSoundFrom_88 : decode cX0_arePollsSoundFrom 88 = .ok (.iconst 1, 1) := by decide +kernel
theorem dX0_arePollsSoundFrom_89 : decode cX0_arePollsSoundFrom 89 = .ok (.iadd, 1) := by decide +kernel
theorem dX0_arePollsSoundFrom_90 : decode cX0_arePollsSoundFrom 90 = .ok (.invokevirtual 86, 3) := by decide +kernel
theorem dX0_arePollsSoundFrom_93 : decode cX0_arePollsSoundFrom 93 = .ok (.iinc 3 1, 3) := by decide +kernel
theorem dX0_arePollsSoundFrom_96 : decode cX0_arePollsSoundFrom 96 = .ok (.goto (-86), 3) := by decide +kernel
theorem dX0_arePollsSoundFrom_99 : decode cX0_arePollsSoundFrom 99 = .ok (.aload_n 0, 1) := by decide +kernel
theorem dX0_arePollsSoundFrom_100 : decode cX0_arePollsSoundFrom 100 = .ok (.getfield 18, 3) := by decide +kernel
theorem dX0_arePollsSoundFrom_103 : decode cX0_arePollsSoundFrom 103 = .ok (.getfield 31, 3) := by decide +kernel
theorem dX0_arePollsSoundFrom_106 : decode cX0_arePollsSoundFrom 106 = .ok (.ifCond .ne 7, 3) := by decide +kernel
theorem dX0_arePollsSoundFrom_109 : decode cX0_arePollsSoundFrom 109 = .ok (.iconst 1, 1) := by decide +kernel
theorem dX0_arePollsSoundFrom_110 : decode cX0_arePollsSoundFrom 110 = .ok (.goto 4, 3) := by decide +kernel
theorem dX0_arePollsSoundFrom_113 : decode cX0_arePollsSoundFrom 113 = .ok (.iconst 0, 1) := by decide +kernel
theorem dX0_arePollsSoundFrom_114 : decode cX0_arePollsSoundFrom 114 = .ok (.ireturn, 1) := by decide +kernel
theorem dX0_isOrderFree_0 : decode cX0_isOrderFree 0 = .ok (.aload_n 0, 1) := by decide +kernel
theorem dX0_isOrderFree_1 : decode cX0_isOrderFree 1 = .ok (.getfield 18, 3) := by decide +kernel
theorem dX0_isOrderFree_4 : decode cX0_isOrderFree 4 = .ok (.aload_n 3, 1) := by decide +kernel
theorem dX0_isOrderFree_5 : decode cX0_isOrderFree 5 = .ok (.invokevirtual 79, 3) := by decide +kernel
theorem dX0_isOrderFree_8 : decode cX0_isOrderFree 8 = .ok (.aload_n 1, 1) := by decide +kernel
theorem dX0_isOrderFree_9 : decode cX0_isOrderFree 9 = .ok (.aload_n 0, 1) := by decide +kernel
theorem dX0_isOrderFree_10 : decode cX0_isOrderFree 10 = .ok (.getfield 18, 3) := by decide +kernel
theorem dX0_isOrderFree_13 : decode cX0_isOrderFree 13 = .ok (.invokevirtual 90, 3) := by decide +kernel
theorem dX0_isOrderFree_16 : decode cX0_isOrderFree 16 = .ok (.pop, 1) := by decide +kernel
theorem dX0_isOrderFree_17 : decode cX0_isOrderFree 17 = .ok (.aload_n 2, 1) := by decide +kernel
theorem dX0_isOrderFree_18 : decode cX0_isOrderFree 18 = .ok (.aload_n 0, 1) := by decide +kernel
theorem dX0_isOrderFree_19 : decode cX0_isOrderFree 19 = .ok (.getfield 18, 3) := by decide +kernel
theorem dX0_isOrderFree_22 : decode cX0_isOrderFree 22 = .ok (.invokevirtual 90, 3) := by decide +kernel
theorem dX0_isOrderFree_25 : decode cX0_isOrderFree 25 = .ok (.pop, 1) := by decide +kernel
theorem dX0_isOrderFree_26 : decode cX0_isOrderFree 26 = .ok (.aload_n 0, 1) := by decide +kernel
theorem dX0_isOrderFree_27 : decode cX0_isOrderFree 27 = .ok (.getfield 21, 3) := by decide +kernel
theorem dX0_isOrderFree_30 : decode cX0_isOrderFree 30 = .ok (.aload_n 3, 1) := by decide +kernel
theorem dX0_isOrderFree_31 : decode cX0_isOrderFree 31 = .ok (.invokevirtual 79, 3) := by decide +kernel
theorem dX0_isOrderFree_34 : decode cX0_isOrderFree 34 = .ok (.aload_n 2, 1) := by decide +kernel
theorem dX0_isOrderFree_35 : decode cX0_isOrderFree 35 = .ok (.aload_n 0, 1) := by decide +kernel
theorem dX0_isOrderFree_36 : decode cX0_isOrderFree 36 = .ok (.getfield 21, 3) := by decide +kernel
theorem dX0_isOrderFree_39 : decode cX0_isOrderFree 39 = .ok (.invokevirtual 90, 3) := by decide +kernel
theorem dX0_isOrderFree_42 : decode cX0_isOrderFree 42 = .ok (.pop, 1) := by decide +kernel
theorem dX0_isOrderFree_43 : decode cX0_isOrderFree 43 = .ok (.aload_n 1, 1) := by decide +kernel
theorem dX0_isOrderFree_44 : decode cX0_isOrderFree 44 = .ok (.aload_n 0, 1) := by decide +kernel
theorem dX0_isOrderFree_45 : decode cX0_isOrderFree 45 = .ok (.getfield 21, 3) := by decide +kernel
theorem dX0_isOrderFree_48 : decode cX0_isOrderFree 48 = .ok (.invokevirtual 90, 3) := by decide +kernel
theorem dX0_isOrderFree_51 : decode cX0_isOrderFree 51 = .ok (.pop, 1) := by decide +kernel
theorem dX0_isOrderFree_52 : decode cX0_isOrderFree 52 = .ok (.aload_n 0, 1) := by decide +kernel
theorem dX0_isOrderFree_53 : decode cX0_isOrderFree 53 = .ok (.getfield 18, 3) := by decide +kernel
theorem dX0_isOrderFree_56 : decode cX0_isOrderFree 56 = .ok (.aload_n 0, 1) := by decide +kernel
theorem dX0_isOrderFree_57 : decode cX0_isOrderFree 57 = .ok (.getfield 21, 3) := by decide +kernel
theorem dX0_isOrderFree_60 : decode cX0_isOrderFree 60 = .ok (.invokevirtual 93, 3) := by decide +kernel
theorem dX0_isOrderFree_63 : decode cX0_isOrderFree 63 = .ok (.ireturn, 1) := by decide +kernel
theorem dX0_isUndone_0 : decode cX0_isUndone 0 = .ok (.aload_n 0, 1) := by decide +kernel
theorem dX0_isUndone_1 : decode cX0_isUndone 1 = .ok (.aload_n 1, 1) := by decide +kernel
theorem dX0_isUndone_2 : decode cX0_isUndone 2 = .ok (.aload_n 2, 1) := by decide +kernel
theorem dX0_isUndone_3 : decode cX0_isUndone 3 = .ok (.aload_n 0, 1) := by decide +kernel
theorem dX0_isUndone_4 : decode cX0_isUndone 4 = .ok (.getfield 27, 3) := by decide +kernel
theorem dX0_isUndone_7 : decode cX0_isUndone 7 = .ok (.invokevirtual 97, 3) := by decide +kernel
theorem dX0_isUndone_10 : decode cX0_isUndone 10 = .ok (.aload_n 0, 1) := by decide +kernel
theorem dX0_isUndone_11 : decode cX0_isUndone 11 = .ok (.getfield 18, 3) := by decide +kernel
theorem dX0_isUndone_14 : decode cX0_isUndone 14 = .ok (.aload_n 2, 1) := by decide +kernel
theorem dX0_isUndone_15 : decode cX0_isUndone 15 = .ok (.invokevirtual 79, 3) := by decide +kernel
theorem dX0_isUndone_18 : decode cX0_isUndone 18 = .ok (.aload_n 1, 1) := by decide +kernel
theorem dX0_isUndone_19 : decode cX0_isUndone 19 = .ok (.aload_n 0, 1) := by decide +kernel
theorem dX0_isUndone_20 : decode cX0_isUndone 20 = .ok (.getfield 18, 3) := by decide +kernel
theorem dX0_isUndone_23 : decode cX0_isUndone 23 = .ok (.invokevirtual 90, 3) := by decide +kernel
theorem dX0_isUndone_26 : decode cX0_isUndone 26 = .ok (.pop, 1) := by decide +kernel
theorem dX0_isUndone_27 : decode cX0_isUndone 27 = .ok (.aload_n 0, 1) := by decide +kernel
theorem dX0_isUndone_28 : decode cX0_isUndone 28 = .ok (.getfield 27, 3) := by decide +kernel
theorem dX0_isUndone_31 : decode cX0_isUndone 31 = .ok (.aload_n 0, 1) := by decide +kernel
theorem dX0_isUndone_32 : decode cX0_isUndone 32 = .ok (.getfield 18, 3) := by decide +kernel
theorem dX0_isUndone_35 : decode cX0_isUndone 35 = .ok (.invokevirtual 90, 3) := by decide +kernel
theorem dX0_isUndone_38 : decode cX0_isUndone 38 = .ok (.pop, 1) := by decide +kernel
theorem dX0_isUndone_39 : decode cX0_isUndone 39 = .ok (.aload_n 0, 1) := by decide +kernel
theorem dX0_isUndone_40 : decode cX0_isUndone 40 = .ok (.getfield 18, 3) := by decide +kernel
theorem dX0_isUndone_43 : decode cX0_isUndone 43 = .ok (.aload_n 2, 1) := by decide +kernel
theorem dX0_isUndone_44 : decode cX0_isUndone 44 = .ok (.invokevirtual 93, 3) := by decide +kernel
theorem dX0_isUndone_47 : decode cX0_isUndone 47 = .ok (.ireturn, 1) := by decide +kernel
theorem dX0_isMixAlike_0 : decode cX0_isMixAlike 0 = .ok (.aload_n 0, 1) := by decide +kernel
theorem dX0_isMixAlike_1 : decode cX0_isMixAlike 1 = .ok (.getfield 18, 3) := by decide +kernel
theorem dX0_isMixAlike_4 : decode cX0_isMixAlike 4 = .ok (.aload_n 2, 1) := by decide +kernel
theorem dX0_isMixAlike_5 : decode cX0_isMixAlike 5 = .ok (.invokevirtual 79, 3) := by decide +kernel
theorem dX0_isMixAlike_8 : decode cX0_isMixAlike 8 = .ok (.aload_n 0, 1) := by decide +kernel
theorem dX0_isMixAlike_9 : decode cX0_isMixAlike 9 = .ok (.getfield 18, 3) := by decide +kernel
theorem dX0_isMixAlike_12 : decode cX0_isMixAlike 12 = .ok (.aload_n 1, 1) := by decide +kernel
theorem dX0_isMixAlike_13 : decode cX0_isMixAlike 13 = .ok (.iload_n 3, 1) := by decide +kernel
theorem dX0_isMixAlike_14 : decode cX0_isMixAlike 14 = .ok (.invokevirtual 101, 3) := by decide +kernel
theorem dX0_isMixAlike_17 : decode cX0_isMixAlike 17 = .ok (.aload_n 0, 1) := by decide +kernel
theorem dX0_isMixAlike_18 : decode cX0_isMixAlike 18 = .ok (.getfield 21, 3) := by decide +kernel
theorem dX0_isMixAlike_21 : decode cX0_isMixAlike 21 = .ok (.aload_n 1, 1) := by decide +kernel
theorem dX0_isMixAlike_22 : decode cX0_isMixAlike 22 = .ok (.invokevirtual 79, 3) := by decide +kernel
theorem dX0_isMixAlike_25 : decode cX0_isMixAlike 25 = .ok (.aload_n 0, 1) := by decide +kernel
theorem dX0_isMixAlike_26 : decode cX0_isMixAlike 26 = .ok (.getfield 21, 3) := by decide +kernel
theorem dX0_isMixAlike_29 : decode cX0_isMixAlike 29 = .ok (.aload_n 2, 1) := by decide +kernel
theorem dX0_isMixAlike_30 : decode cX0_isMixAlike 30 = .ok (.iload_n 3, 1) := by decide +kernel
theorem dX0_isMixAlike_31 : decode cX0_isMixAlike 31 = .ok (.invokevirtual 101, 3) := by decide +kernel
theorem dX0_isMixAlike_34 : decode cX0_isMixAlike 34 = .ok (.aload_n 0, 1) := by decide +kernel
theorem dX0_isMixAlike_35 : decode cX0_isMixAlike 35 = .ok (.getfield 18, 3) := by decide +kernel
theorem dX0_isMixAlike_38 : decode cX0_isMixAlike 38 = .ok (.aload_n 0, 1) := by decide +kernel
theorem dX0_isMixAlike_39 : decode cX0_isMixAlike 39 = .ok (.getfield 21, 3) := by decide +kernel
theorem dX0_isMixAlike_42 : decode cX0_isMixAlike 42 = .ok (.invokevirtual 93, 3) := by decide +kernel
theorem dX0_isMixAlike_45 : decode cX0_isMixAlike 45 = .ok (.ireturn, 1) := by decide +kernel
end
section
theorem dX4_init_0 : decode cX4_init 0 = .ok (.aload_n 0, 1) := by decide +kernel
theorem dX4_init_1 : decode cX4_init 1 = .ok (.invokespecial 3, 3) := by decide +kernel
theorem dX4_init_4 : decode cX4_init 4 = .ok (.aload_n 0, 1) := by decide +kernel
theorem dX4_init_5 : decode cX4_init 5 = .ok (.iconst 3, 1) := by decide +kernel
theorem dX4_init_6 : decode cX4_init 6 = .ok (.anewarray 9, 3) := by decide +kernel
theorem dX4_init_9 : decode cX4_init 9 = .ok (.putfield 11, 3) := by decide +kernel
theorem dX4_init_12 : decode cX4_init 12 = .ok (.aload_n 0, 1) := by decide +kernel
theorem dX4_init_13 : decode cX4_init 13 = .ok (.iconst 4, 1) := by decide +kernel
theorem dX4_init_14 : decode cX4_init 14 = .ok (.anewarray 15, 3) := by decide +kernel
theorem dX4_init_17 : decode cX4_init 17 = .ok (.putfield 17, 3) := by decide +kernel
theorem dX4_init_20 : decode cX4_init 20 = .ok (.aload_n 0, 1) := by decide +kernel
theorem dX4_init_21 : decode cX4_init 21 = .ok (.iconst 3, 1) := by decide +kernel
theorem dX4_init_22 : decode cX4_init 22 = .ok (.anewarray 21, 3) := by decide +kernel
theorem dX4_init_25 : decode cX4_init 25 = .ok (.putfield 23, 3) := by decide +kernel
theorem dX4_init_28 : decode cX4_init 28 = .ok (.aload_n 0, 1) := by decide +kernel
theorem dX4_init_29 : decode cX4_init 29 = .ok (.new 27, 3) := by decide +kernel
theorem dX4_init_32 : decode cX4_init 32 = .ok (.dup, 1) := by decide +kernel
theorem dX4_init_33 : decode cX4_init 33 = .ok (.invokespecial 29, 3) := by decide +kernel
theorem dX4_init_36 : decode cX4_init 36 = .ok (.putfield 30, 3) := by decide +kernel
theorem dX4_init_39 : decode cX4_init 39 = .ok (.aload_n 0, 1) := by decide +kernel
theorem dX4_init_40 : decode cX4_init 40 = .ok (.bipush 60, 2) := by decide +kernel
theorem dX4_init_42 : decode cX4_init 42 = .ok (.newarray .int, 2) := by decide +kernel
theorem dX4_init_44 : decode cX4_init 44 = .ok (.putfield 34, 3) := by decide +kernel
theorem dX4_init_47 : decode cX4_init 47 = .ok (.iconst 0, 1) := by decide +kernel
theorem dX4_init_48 : decode cX4_init 48 = .ok (.istore_n 1, 1) := by decide +kernel
theorem dX4_init_49 : decode cX4_init 49 = .ok (.iload_n 1, 1) := by decide +kernel
theorem dX4_init_50 : decode cX4_init 50 = .ok (.aload_n 0, 1) := by decide +kernel
theorem dX4_init_51 : decode cX4_init 51 = .ok (.getfield 11, 3) := by decide +kernel
theorem dX4_init_54 : decode cX4_init 54 = .ok (.arraylength, 1) := by decide +kernel
theorem dX4_init_55 : decode cX4_init 55 = .ok (.if_icmp .ge 22, 3) := by decide +kernel
theorem dX4_init_58 : decode cX4_init 58 = .ok (.aload_n 0, 1) := by decide +kernel
theorem dX4_init_59 : decode cX4_init 59 = .ok (.getfield 11, 3) := by decide +kernel
theorem dX4_init_62 : decode cX4_init 62 = .ok (.iload_n 1, 1) := by decide +kernel
theorem dX4_init_63 : decode cX4_init 63 = .ok (.new 9, 3) := by decide +kernel
theorem dX4_init_66 : decode cX4_init 66 = .ok (.dup, 1) := by decide +kernel
theorem dX4_init_67 : decode cX4_init 67 = .ok (.invokespecial 38, 3) := by decide +kernel
theorem dX4_init_70 : decode cX4_init 70 = .ok (.aastore, 1) := by decide +kernel
theorem dX4_init_71 : decode cX4_init 71 = .ok (.iinc 1 1, 3) := by decide +kernel
theorem dX4_init_74 : decode cX4_init 74 = .ok (.goto (-25), 3) := by decide +kernel
theorem dX4_init_77 : decode cX4_init 77 = .ok (.iconst 0, 1) := by decide +kernel
theorem dX4_init_78 : decode cX4_init 78 = .ok (.istore_n 1, 1) := by decide +kernel
theorem dX4_init_79 : decode cX4_init 79 = .ok (.iload_n 1, 1) := by decide +kernel
theorem dX4_init_80 : decode cX4_init 80 = .ok (.aload_n 0, 1) := by decide +kernel
theorem dX4_init_81 : decode cX4_init 81 = .ok (.getfield 17, 3) := by decide +kernel
theorem dX4_init_84 : decode cX4_init 84 = .ok (.arraylength, 1) := by decide +kernel
theorem dX4_init_85 : decode cX4_init 85 = .ok (.if_icmp .ge 22, 3) := by decide +kernel
theorem dX4_init_88 : decode cX4_init 88 = .ok (.aload_n 0, 1) := by decide +kernel
theorem dX4_init_89 : decode cX4_init 89 = .ok (.getfield 17, 3) := by decide +kernel
theorem dX4_init_92 : decode cX4_init 92 = .ok (.iload_n 1, 1) := by decide +kernel
theorem dX4_init_93 : decode cX4_init 93 = .ok (.new 15, 3) := by decide +kernel
theorem dX4_init_96 : decode cX4_init 96 = .ok (.dup, 1) := by decide +kernel
theorem dX4_init_97 : decode cX4_init 97 = .ok (.invokespecial 39, 3) := by decide +kernel
theorem dX4_init_100 : decode cX4_init 100 = .ok (.aastore, 1) := by decide +kernel
theorem dX4_init_101 : decode cX4_init 101 = .ok (.iinc 1 1, 3) := by decide +kernel
theorem dX4_init_104 : decode cX4_init 104 = .ok (.goto (-25), 3) := by decide +kernel
theorem dX4_init_107 : decode cX4_init 107 = .ok (.iconst 0, 1) := by decide +kernel
theorem dX4_init_108 : decode cX4_init 108 = .ok (.istore_n 1, 1) := by decide +kernel
theorem dX4_init_109 : decode cX4_init 109 = .ok (.iload_n 1, 1) := by decide +kernel
theorem dX4_init_110 : decode cX4_init 110 = .ok (.aload_n 0, 1) := by decide +kernel
theorem dX4_init_111 : decode cX4_init 111 = .ok (.getfield 23, 3) := by decide +kernel
theorem dX4_init_114 : decode cX4_init 114 = .ok (.arraylength, 1) := by decide +kernel
theorem dX4_init_115 : decode cX4_init 115 = .ok (.if_icmp .ge 22, 3) := by decide +kernel
theorem dX4_init_118 : decode cX4_init 118 = .ok (.aload_n 0, 1) := by decide +kernel
theorem dX4_init_119 : decode cX4_init 119 = .ok (.getfield 23, 3) := by decide +kernel
theorem dX4_init_122 : decode cX4_init 122 = .ok (.iload_n 1, 1) := by decide +kernel
theorem dX4_init_123 : decode cX4_init 123 = .ok (.new 21, 3) := by decide +kernel
theorem dX4_init_126 : decode cX4_init 126 = .ok (.dup, 1) := by decide +kernel
theorem dX4_init_127 : decode cX4_init 127 = .ok (.invokespecial 40, 3) := by decide +kernel
theorem dX4_init_130 : decode cX4_init 130 = .ok (.aastore, 1) := by decide +kernel
theorem dX4_init_131 : decode cX4_init 131 = .ok (.iinc 1 1, 3) := by decide +kernel
theorem dX4_init_134 : decode cX4_init 134 = .ok (.goto (-25), 3) := by decide +kernel
theorem dX4_init_137 : decode cX4_init 137 = .ok (.return_, 1) := by decide +kernel
theorem dX4_put_0 : decode cX4_put 0 = .ok (.aload_n 0, 1) := by decide +kernel
theorem dX4_put_1 : decode cX4_put 1 = .ok (.iload_n 1, 1) := by decide +kernel
theorem dX4_put_2 : decode cX4_put 2 = .ok (.invokevirtual 41, 3) := by decide +kernel
theorem dX4_put_5 : decode cX4_put 5 = .ok (.astore 4, 2) := by decide +kernel
theorem dX4_put_7 : decode cX4_put 7 = .ok (.aload 4, 2) := by decide +kernel
theorem dX4_put_9 : decode cX4_put 9 = .ok (.iload_n 2, 1) := by decide +kernel
theorem dX4_put_10 : decode cX4_put 10 = .ok (.iload_n 3, 1) := by decide +kernel
theorem dX4_put_11 : decode cX4_put 11 = .ok (.invokestatic 45, 3) := by decide +kernel
theorem dX4_put_14 : decode cX4_put 14 = .ok (.aload 4, 2) := by decide +kernel
theorem dX4_put_16 : decode cX4_put 16 = .ok (.getfield 49, 3) := by decide +kernel
theorem dX4_put_19 : decode cX4_put 19 = .ok (.ireturn, 1) := by decide +kernel
theorem dX4_value_0 : decode cX4_value 0 = .ok (.aload_n 0, 1) := by decide +kernel
theorem dX4_value_1 : decode cX4_value 1 = .ok (.iload_n 1, 1) := by decide +kernel
theorem dX4_value_2 : decode cX4_value 2 = .ok (.invokevirtual 41, 3) := by decide +kernel
theorem dX4_value_5 : decode cX4_value 5 = .ok (.astore_n 3, 1) := by decide +kernel
theorem dX4_value_6 : decode cX4_value 6 = .ok (.aload_n 3, 1) := by decide +kernel
theorem dX4_value_7 : decode cX4_value 7 = .ok (.iload_n 2, 1) := by decide +kernel
theorem dX4_value_8 : decode cX4_value 8 = .ok (.invokevirtual 53, 3) := by decide +kernel
theorem dX4_value_11 : decode cX4_value 11 = .ok (.istore 4, 2) := by decide +kernel
theorem dX4_value_13 : decode cX4_value 13 = .ok (.iload 4, 2) := by decide +kernel
theorem dX4_value_15 : decode cX4_value 15 = .ok (.ifCond .ge 13, 3) := by decide +kernel
theorem dX4_value_18 : decode cX4_value 18 = .ok (.new 57, 3) := by decide +kernel
theorem dX4_value_21 : decode cX4_value 21 = .ok (.dup, 1) := by decide +kernel
theorem dX4_value_22 : decode cX4_value 22 = .ok (.ldc 59, 2) := by decide +kernel
theorem dX4_value_24 : decode cX4_value 24 = .ok (.invokespecial 61, 3) := by decide +kernel
theorem dX4_value_27 : decode cX4_value 27 = .ok (.athrow, 1) := by decide +kernel
theorem dX4_value_28 : decode cX4_value 28 = .ok (.aload_n 3, 1) := by decide +kernel
theorem dX4_value_29 : decode cX4_value 29 = .ok (.getfield 64, 3) := by decide +kernel
theorem dX4_value_32 : decode cX4_value 32 = .ok (.iload 4, 2) := by decide +kernel
theorem dX4_value_34 : decode cX4_value 34 = .ok (.iaload, 1) := by decide +kernel
theorem dX4_value_35 : decode cX4_value 35 = .ok (.ireturn, 1) := by decide +kernel
theorem dX4_remove_0 : decode cX4_remove 0 = .ok (.aload_n 0, 1) := by decide +kernel
theorem dX4_remove_1 : decode cX4_remove 1 = .ok (.iload_n 1, 1) := by decide +kernel
theorem dX4_remove_2 : decode cX4_remove 2 = .ok (.invokevirtual 41, 3) := by decide +kernel
theorem dX4_remove_5 : decode cX4_remove 5 = .ok (.astore_n 3, 1) := by decide +kernel
theorem dX4_remove_6 : decode cX4_remove 6 = .ok (.aload_n 3, 1) := by decide +kernel
theorem dX4_remove_7 : decode cX4_remove 7 = .ok (.iload_n 2, 1) := by decide +kernel
theorem dX4_remove_8 : decode cX4_remove 8 = .ok (.invokevirtual 67, 3) := by decide +kernel
theorem dX4_remove_11 : decode cX4_remove 11 = .ok (.pop, 1) := by decide +kernel
theorem dX4_remove_12 : decode cX4_remove 12 = .ok (.aload_n 3, 1) := by decide +kernel
theorem dX4_remove_13 : decode cX4_remove 13 = .ok (.getfield 49, 3) := by decide +kernel
theorem dX4_remove_16 : decode cX4_remove 16 = .ok (.ireturn, 1) := by decide +kernel
theorem dX4_near_0 : decode cX4_near 0 = .ok (.aload_n 0, 1) := by decide +kernel
theorem dX4_near_1 : decode cX4_near 1 = .ok (.iload_n 1, 1) := by decide +kernel
theorem dX4_near_2 : decode cX4_near 2 = .ok (.invokevirtual 41, 3) := by decide +kernel
theorem dX4_near_5 : decode cX4_near 5 = .ok (.astore 4, 2) := by decide +kernel
theorem dX4_near_7 : decode cX4_near 7 = .ok (.iload_n 3, 1) := by decide +kernel
theorem dX4_near_8 : decode cX4_near 8 = .ok (.invokestatic 71, 3) := by decide +kernel
theorem dX4_near_11 : decode cX4_near 11 = .ok (.ifCond .ne 13, 3) := by decide +kernel
theorem dX4_near_14 : decode cX4_near 14 = .ok (.new 75, 3) := by decide +kernel
theorem dX4_near_17 : decode cX4_near 17 = .ok (.dup, 1) := by decide +kernel
theorem dX4_near_18 : decode cX4_near 18 = .ok (.ldc 77, 2) := by decide +kernel
theorem dX4_near_20 : decode cX4_near 20 = .ok (.invokespecial 79, 3) := by decide +kernel
theorem dX4_near_23 : decode cX4_near 23 = .ok (.athrow, 1) := by decide +kernel
theorem dX4_near_24 : decode cX4_near 24 = .ok (.aload 4, 2) := by decide +kernel
theorem dX4_near_26 : decode cX4_near 26 = .ok (.iload_n 2, 1) := by decide +kernel
theorem dX4_near_27 : decode cX4_near 27 = .ok (.iload_n 3, 1) := by decide +kernel
theorem dX4_near_28 : decode cX4_near 28 = .ok (.iconst 0, 1) := by decide +kernel
theorem dX4_near_29 : decode cX4_near 29 = .ok (.aload 4, 2) := by decide +kernel
theorem dX4_near_31 : decode cX4_near 31 = .ok (.getfield 49, 3) := by decide +kernel
theorem dX4_near_34 : decode cX4_near 34 = .ok (.invokevirtual 80, 3) := by decide +kernel
theorem dX4_near_37 : decode cX4_near 37 = .ok (.istore 5, 2) := by decide +kernel
theorem dX4_near_39 : decode cX4_near 39 = .ok (.iload 5, 2) := by decide +kernel
theorem dX4_near_41 : decode cX4_near 41 = .ok (.ifCond .ge 13, 3) := by decide +kernel
theorem dX4_near_44 : decode cX4_near 44 = .ok (.new 57, 3) := by decide +kernel
theorem dX4_near_47 : decode cX4_near 47 = .ok (.dup, 1) := by decide +kernel
theorem dX4_near_48 : decode cX4_near 48 = .ok (.ldc 84, 2) := by decide +kernel
theorem dX4_near_50 : decode cX4_near 50 = .ok (.invokespecial 61, 3) := by decide +kernel
theorem dX4_near_53 : decode cX4_near 53 = .ok (.athrow, 1) := by decide +kernel
theorem dX4_near_54 : decode cX4_near 54 = .ok (.aload 4, 2) := by decide +kernel
theorem dX4_near_56 : decode cX4_near 56 = .ok (.getfield 86, 3) := by decide +kernel
theorem dX4_near_59 : decode cX4_near 59 = .ok (.iload 5, 2) := by decide +kernel
theorem dX4_near_61 : decode cX4_near 61 = .ok (.iaload, 1) := by decide +kernel
theorem dX4_near_62 : decode cX4_near 62 = .ok (.ireturn, 1) := by decide +kernel
theorem dX4_end_0 : decode cX4_end 0 = .ok (.aload_n 0, 1) := by decide +kernel
theorem dX4_end_1 : decode cX4_end 1 = .ok (.iload_n 1, 1) := by decide +kernel
theorem dX4_end_2 : decode cX4_end 2 = .ok (.invokevirtual 41, 3) := by decide +kernel
theorem dX4_end_5 : decode cX4_end 5 = .ok (.astore_n 3, 1) := by decide +kernel
theorem dX4_end_6 : decode cX4_end 6 = .ok (.aload_n 3, 1) := by decide +kernel
theorem dX4_end_7 : decode cX4_end 7 = .ok (.getfield 86, 3) := by decide +kernel
theorem dX4_end_10 : decode cX4_end 10 = .ok (.iconst 0, 1) := by decide +kernel
theorem dX4_end_11 : decode cX4_end 11 = .ok (.aload_n 3, 1) := by decide +kernel
theorem dX4_end_12 : decode cX4_end 12 = .ok (.getfield 49, 3) := by decide +kernel
theorem dX4_end_15 : decode cX4_end 15 = .ok (.iload_n 2, 1) := by decide +kernel
theorem dX4_end_16 : decode cX4_end 16 = .ok (.invokestatic 89, 3) := by decide +kernel
theorem dX4_end_19 : decode cX4_end 19 = .ok (.iaload, 1) := by decide +kernel
theorem dX4_end_20 : decode cX4_end 20 = .ok (.ireturn, 1) := by decide +kernel
theorem dX4_poll_0 : decode cX4_poll 0 = .ok (.aload_n 0, 1) := by decide +kernel
theorem dX4_poll_1 : decode cX4_poll 1 = .ok (.iload_n 1, 1) := by decide +kernel
theorem dX4_poll_2 : decode cX4_poll 2 = .ok (.invokevirtual 41, 3) := by decide +kernel
theorem dX4_poll_5 : decode cX4_poll 5 = .ok (.astore_n 3, 1) := by decide +kernel
theorem dX4_poll_6 : decode cX4_poll 6 = .ok (.aload_n 0, 1) := by decide +kernel
theorem dX4_poll_7 : decode cX4_poll 7 = .ok (.aload_n 3, 1) := by decide +kernel
theorem dX4_poll_8 : decode cX4_poll 8 = .ok (.iconst 0, 1) := by decide +kernel
theorem dX4_poll_9 : decode cX4_poll 9 = .ok (.aload_n 3, 1) := by decide +kernel
theorem dX4_poll_10 : decode cX4_poll 10 = .ok (.getfield 49, 3) := by decide +kernel
theorem dX4_poll_13 : decode cX4_poll 13 = .ok (.iload_n 2, 1) := by decide +kernel
theorem dX4_poll_14 : decode cX4_poll 14 = .ok (.invokestatic 89, 3) := by decide +kernel
theorem dX4_poll_17 : decode cX4_poll 17 = .ok (.invokevirtual 93, 3) := by decide +kernel
theorem dX4_poll_20 : decode cX4_poll 20 = .ok (.ireturn, 1) := by decide +kernel
theorem dX4_polled_0 : decode cX4_polled 0 = .ok (.aload_n 0, 1) := by decide +kernel
theorem dX4_polled_1 : decode cX4_polled 1 = .ok (.getfield 97, 3) := by decide +kernel
theorem dX4_polled_4 : decode cX4_polled 4 = .ok (.ifCond .ne 13, 3) := by decide +kernel
theorem dX4_polled_7 : decode cX4_polled 7 = .ok (.new 57, 3) := by decide +kernel
theorem dX4_polled_10 : decode cX4_polled 10 = .ok (.dup, 1) := by decide +kernel
theorem dX4_polled_11 : decode cX4_polled 11 = .ok (.ldc 101, 2) := by decide +kernel
theorem dX4_polled_13 : decode cX4_polled 13 = .ok (.invokespecial 61, 3) := by decide +kernel
theorem dX4_polled_16 : decode cX4_polled 16 = .ok (.athrow, 1) := by decide +kernel
theorem dX4_polled_17 : decode cX4_polled 17 = .ok (.aload_n 0, 1) := by decide +kernel
theorem dX4_polled_18 : decode cX4_polled 18 = .ok (.getfield 103, 3) := by decide +kernel
theorem dX4_polled_21 : decode cX4_polled 21 = .ok (.ireturn, 1) := by decide +kernel
theorem dX4_drain_0 : decode cX4_drain 0 = .ok (.aload_n 0, 1) := by decide +kernel
theorem dX4_drain_1 : decode cX4_drain 1 = .ok (.iload_n 1, 1) := by decide +kernel
theorem dX4_drain_2 : decode cX4_drain 2 = .ok (.invokevirtual 41, 3) := by decide +kernel
theorem dX4_drain_5 : decode cX4_drain 5 = .ok (.astore_n 3, 1) := by decide +kernel
theorem dX4_drain_6 : decode cX4_drain 6 = .ok (.iconst 0, 1) := by decide +kernel
theorem dX4_drain_7 : decode cX4_drain 7 = .ok (.istore 4, 2) := by decide +kernel
theorem dX4_drain_9 : decode cX4_drain 9 = .ok (.iload 4, 2) := by decide +kernel
theorem dX4_drain_11 : decode cX4_drain 11 = .ok (.aload_n 0, 1) := by decide +kernel
theorem dX4_drain_12 : decode cX4_drain 12 = .ok (.getfield 34, 3) := by decide +kernel
theorem dX4_drain_15 : decode cX4_drain 15 = .ok (.arraylength, 1) := by decide +kernel
theorem dX4_drain_16 : decode cX4_drain 16 = .ok (.if_icmp .ge 42, 3) := by decide +kernel
theorem dX4_drain_19 : decode cX4_drain 19 = .ok (.aload_n 3, 1) := by decide +kernel
theorem dX4_drain_20 : decode cX4_drain 20 = .ok (.getfield 49, 3) := by decide +kernel
theorem dX4_drain_23 : decode cX4_drain 23 = .ok (.ifCond .le 35, 3) := by decide +kernel
theorem dX4_drain_26 : decode cX4_drain 26 = .ok (.aload_n 0, 1) := by decide +kernel
theorem dX4_drain_27 : decode cX4_drain 27 = .ok (.getfield 34, 3) := by decide +kernel
theorem dX4_drain_30 : decode cX4_drain 30 = .ok (.iload 4, 2) := by decide +kernel
theorem dX4_drain_32 : decode cX4_drain 32 = .ok (.aload_n 0, 1) := by decide +kernel
theorem dX4_drain_33 : decode cX4_drain 33 = .ok (.aload_n 3, 1) := by decide +kernel
theorem dX4_drain_34 : decode cX4_drain 34 = .ok (.iload_n 2, 1) := by decide +kernel
theorem dX4_drain_35 : decode cX4_drain 35 = .ok (.ifCond .eq 12, 3) := by decide +kernel
theorem dX4_drain_38 : decode cX4_drain 38 = .ok (.aload_n 3, 1) := by decide +kernel
theorem dX4_drain_39 : decode cX4_drain 39 = .ok (.getfield 49, 3) := by decide +kernel
theorem dX4_drain_42 : decode cX4_drain 42 = .ok (.iconst 1, 1) := by decide +kernel
theorem dX4_drain_43 : decode cX4_drain 43 = .ok (.isub, 1) := by decide +kernel
theorem dX4_drain_44 : decode cX4_drain 44 = .ok (.goto 4, 3) := by decide +kernel
theorem dX4_drain_47 : decode cX4_drain 47 = .ok (.iconst 0, 1) := by decide +kernel
theorem dX4_drain_48 : decode cX4_drain 48 = .ok (.invokevirtual 93, 3) := by decide +kernel
theorem dX4_drain_51 : decode cX4_drain 51 = .ok (.iastore, 1) := by decide +kernel
theorem dX4_drain_52 : decode cX4_drain 52 = .ok (.iinc 4 1, 3) := by decide +kernel
theorem dX4_drain_55 : decode cX4_drain 55 = .ok (.goto (-46), 3) := by decide +kernel
theorem dX4_drain_58 : decode cX4_drain 58 = .ok (.aload_n 0, 1) := by decide +kernel
theorem dX4_drain_59 : decode cX4_drain 59 = .ok (.iload 4, 2) := by decide +kernel
theorem dX4_drain_61 : decode cX4_drain 61 = .ok (.putfield 106, 3) := by decide +kernel
theorem dX4_drain_64 : decode cX4_drain 64 = .ok (.iload 4, 2) := by decide +kernel
theorem dX4_drain_66 : decode cX4_drain 66 = .ok (.ireturn, 1) := by decide +kernel
theorem dX4_drained_0 : decode cX4_drained 0 = .ok (.iload_n 1, 1) := by decide +kernel
theorem dX4_drained_1 : decode cX4_drained 1 = .ok (.ifCond .lt 11, 3) := by decide +kernel
theorem dX4_drained_4 : decode cX4_drained 4 = .ok (.iload_n 1, 1) := by decide +kernel
theorem dX4_drained_5 : decode cX4_drained 5 = .ok (.aload_n 0, 1) := by decide +kernel
theorem dX4_drained_6 : decode cX4_drained 6 = .ok (.getfield 106, 3) := by decide +kernel
theorem dX4_drained_9 : decode cX4_drained 9 = .ok (.if_icmp .lt 13, 3) := by decide +kernel
theorem dX4_drained_12 : decode cX4_drained 12 = .ok (.new 109, 3) := by decide +kernel
theorem dX4_drained_15 : decode cX4_drained 15 = .ok (.dup, 1) := by decide +kernel
theorem dX4_drained_16 : decode cX4_drained 16 = .ok (.ldc 111, 2) := by decide +kernel
theorem dX4_drained_18 : decode cX4_drained 18 = .ok (.invokespecial 113, 3) := by decide +kernel
theorem dX4_drained_21 : decode cX4_drained 21 = .ok (.athrow, 1) := by decide +kernel
theorem dX4_drained_22 : decode cX4_drained 22 = .ok (.aload_n 0, 1) := by decide +kernel
theorem dX4_drained_23 : decode cX4_drained 23 = .ok (.getfield 34, 3) := by decide +kernel
theorem dX4_drained_26 : decode cX4_drained 26 = .ok (.iload_n 1, 1) := by decide +kernel
theorem dX4_drained_27 : decode cX4_drained 27 = .ok (.iaload, 1) := by decide +kernel
theorem dX4_drained_28 : decode cX4_drained 28 = .ok (.ireturn, 1) := by decide +kernel
theorem dX4_size_0 : decode cX4_size 0 = .ok (.aload_n 0, 1) := by decide +kernel
theorem dX4_size_1 : decode cX4_size 1 = .ok (.iload_n 1, 1) := by decide +kernel
theorem dX4_size_2 : decode cX4_size 2 = .ok (.invokevirtual 41, 3) := by decide +kernel
theorem dX4_size_5 : decode cX4_size 5 = .ok (.getfield 49, 3) := by decide +kernel
theorem dX4_size_8 : decode cX4_size 8 = .ok (.ireturn, 1) := by decide +kernel
theorem dX4_keyAt_0 : decode cX4_keyAt 0 = .ok (.aload_n 0, 1) := by decide +kernel
theorem dX4_keyAt_1 : decode cX4_keyAt 1 = .ok (.iload_n 1, 1) := by decide +kernel
theorem dX4_keyAt_2 : decode cX4_keyAt 2 = .ok (.invokevirtual 41, 3) := by decide +kernel
theorem dX4_keyAt_5 : decode cX4_keyAt 5 = .ok (.astore 4, 2) := by decide +kernel
theorem dX4_keyAt_7 : decode cX4_keyAt 7 = .ok (.iload_n 2, 1) := by decide +kernel
theorem dX4_keyAt_8 : decode cX4_keyAt 8 = .ok (.ifCond .lt 12, 3) := by decide +kernel
theorem dX4_keyAt_11 : decode cX4_keyAt 11 = .ok (.iload_n 2, 1) := by decide +kernel
theorem dX4_keyAt_12 : decode cX4_keyAt 12 = .ok (.aload 4, 2) := by decide +kernel
theorem dX4_keyAt_14 : decode cX4_keyAt 14 = .ok (.getfield 49, 3) := by decide +kernel
theorem dX4_keyAt_17 : decode cX4_keyAt 17 = .ok (.if_icmp .lt 13, 3) := by decide +kernel
theorem dX4_keyAt_20 : decode cX4_keyAt 20 = .ok (.new 109, 3) := by decide +kernel
theorem dX4_keyAt_23 : decode cX4_keyAt 23 = .ok (.dup, 1) := by decide +kernel
theorem dX4_keyAt_24 : decode cX4_keyAt 24 = .ok (.ldc 114, 2) := by decide +kernel
theorem dX4_keyAt_26 : decode cX4_keyAt 26 = .ok (.invokespecial 113, 3) := by decide +kernel
theorem dX4_keyAt_29 : decode cX4_keyAt 29 = .ok (.athrow, 1) := by decide +kernel
theorem dX4_keyAt_30 : decode cX4_keyAt 30 = .ok (.aload 4, 2) := by decide +kernel
theorem dX4_keyAt_32 : decode cX4_keyAt 32 = .ok (.getfield 86, 3) := by decide +kernel
theorem dX4_keyAt_35 : decode cX4_keyAt 35 = .ok (.iload_n 3, 1) := by decide +kernel
theorem dX4_keyAt_36 : decode cX4_keyAt 36 = .ok (.ifCond .eq 15, 3) := by decide +kernel
theorem dX4_keyAt_39 : decode cX4_keyAt 39 = .ok (.aload 4, 2) := by decide +kernel
theorem dX4_keyAt_41 : decode cX4_keyAt 41 = .ok (.getfield 49, 3) := by decide +kernel
theorem dX4_keyAt_44 : decode cX4_keyAt 44 = .ok (.iconst 1, 1) := by decide +kernel
theorem dX4_keyAt_45 : decode cX4_keyAt 45 = .ok (.isub, 1) := by decide +kernel
theorem dX4_keyAt_46 : decode cX4_keyAt 46 = .ok (.iload_n 2, 1) := by decide +kernel
theorem dX4_keyAt_47 : decode cX4_keyAt 47 = .ok (.isub, 1) := by decide +kernel
theorem dX4_keyAt_48 : decode cX4_keyAt 48 = .ok (.goto 4, 3) := by decide +kernel
theorem dX4_keyAt_51 : decode cX4_keyAt 51 = .ok (.iload_n 2, 1) := by decide +kernel
theorem dX4_keyAt_52 : decode cX4_keyAt 52 = .ok (.iaload, 1) := by decide +kernel
theorem dX4_keyAt_53 : decode cX4_keyAt 53 = .ok (.ireturn, 1) := by decide +kernel
theorem dX4_mark_0 : decode cX4_mark 0 = .ok (.aload_n 0, 1) := by decide +kernel
theorem dX4_mark_1 : decode cX4_mark 1 = .ok (.iload_n 1, 1) := by decide +kernel
theorem dX4_mark_2 : decode cX4_mark 2 = .ok (.invokevirtual 41, 3) := by decide +kernel
theorem dX4_mark_5 : decode cX4_mark 5 = .ok (.astore_n 2, 1) := by decide +kernel
theorem dX4_mark_6 : decode cX4_mark 6 = .ok (.iconst 0, 1) := by decide +kernel
theorem dX4_mark_7 : decode cX4_mark 7 = .ok (.istore_n 3, 1) := by decide +kernel
theorem dX4_mark_8 : decode cX4_mark 8 = .ok (.iconst 0, 1) := by decide +kernel
theorem dX4_mark_9 : decode cX4_mark 9 = .ok (.istore 4, 2) := by decide +kernel
theorem dX4_mark_11 : decode cX4_mark 11 = .ok (.iload 4, 2) := by decide +kernel
theorem dX4_mark_13 : decode cX4_mark 13 = .ok (.aload_n 2, 1) := by decide +kernel
theorem dX4_mark_14 : decode cX4_mark 14 = .ok (.getfield 49, 3) := by decide +kernel
theorem dX4_mark_17 : decode cX4_mark 17 = .ok (.if_icmp .ge 27, 3) := by decide +kernel
theorem dX4_mark_20 : decode cX4_mark 20 = .ok (.iload_n 3, 1) := by decide +kernel
theorem dX4_mark_21 : decode cX4_mark 21 = .ok (.aload_n 2, 1) := by decide +kernel
theorem dX4_mark_22 : decode cX4_mark 22 = .ok (.getfield 86, 3) := by decide +kernel
theorem dX4_mark_25 : decode cX4_mark 25 = .ok (.iload 4, 2) := by decide +kernel
theorem dX4_mark_27 : decode cX4_mark 27 = .ok (.iaload, 1) := by decide +kernel
theorem dX4_mark_28 : decode cX4_mark 28 = .ok (.aload_n 2, 1) := by decide +kernel
theorem dX4_mark_29 : decode cX4_mark 29 = .ok (.getfield 64, 3) := by decide +kernel
theorem dX4_mark_32 : decode cX4_mark 32 = .ok (.iload 4, 2) := by decide +kernel
theorem dX4_mark_34 : decode cX4_mark 34 = .ok (.iaload, 1) := by decide +kernel
theorem dX4_mark_35 : decode cX4_mark 35 = .ok (.ixor, 1) := by decide +kernel
theorem dX4_mark_36 : decode cX4_mark 36 = .ok (.iadd, 1) := by decide +kernel
theorem dX4_mark_37 : decode cX4_mark 37 = .ok (.istore_n 3, 1) := by decide +kernel
theorem dX4_mark_38 : decode cX4_mark 38 = .ok (.iinc 4 1, 3) := by decide +kernel
theorem dX4_mark_41 : decode cX4_mark 41 = .ok (.goto (-30), 3) := by decide +kernel
theorem dX4_mark_44 : decode cX4_mark 44 = .ok (.iload_n 3, 1) := by decide +kernel
theorem dX4_mark_45 : decode cX4_mark 45 = .ok (.ireturn, 1) := by decide +kernel
theorem dX4_isLike_0 : decode cX4_isLike 0 = .ok (.aload_n 0, 1) := by decide +kernel
theorem dX4_isLike_1 : decode cX4_isLike 1 = .ok (.iload_n 1, 1) := by decide +kernel
theorem dX4_isLike_2 : decode cX4_isLike 2 = .ok (.invokevirtual 41, 3) := by decide +kernel
theorem dX4_isLike_5 : decode cX4_isLike 5 = .ok (.astore_n 3, 1) := by decide +kernel
theorem dX4_isLike_6 : decode cX4_isLike 6 = .ok (.aload_n 3, 1) := by decide +kernel
theorem dX4_isLike_7 : decode cX4_isLike 7 = .ok (.aload_n 0, 1) := by decide +kernel
theorem dX4_isLike_8 : decode cX4_isLike 8 = .ok (.iload_n 2, 1) := by decide +kernel
theorem dX4_isLike_9 : decode cX4_isLike 9 = .ok (.invokevirtual 41, 3) := by decide +kernel
theorem dX4_isLike_12 : decode cX4_isLike 12 = .ok (.invokevirtual 116, 3) := by decide +kernel
theorem dX4_isLike_15 : decode cX4_isLike 15 = .ok (.ireturn, 1) := by decide +kernel
theorem dX4_open_0 : decode cX4_open 0 = .ok (.aload_n 0, 1) := by decide +kernel
theorem dX4_open_1 : decode cX4_open 1 = .ok (.iload_n 1, 1) := by decide +kernel
theorem dX4_open_2 : decode cX4_open 2 = .ok (.invokevirtual 120, 3) := by decide +kernel
theorem dX4_open_5 : decode cX4_open 5 = .ok (.astore 7, 2) := by decide +kernel
theorem dX4_open_7 : decode cX4_open 7 = .ok (.aload_n 0, 1) := by decide +kernel
theorem dX4_open_8 : decode cX4_open 8 = .ok (.iload_n 2, 1) := by decide +kernel
theorem dX4_open_9 : decode cX4_open 9 = .ok (.invokevirtual 41, 3) := by decide +kernel
theorem dX4_open_12 : decode cX4_open 12 = .ok (.astore 8, 2) := by decide +kernel
theorem dX4_open_14 : decode cX4_open 14 = .ok (.iload 5, 2) := by decide +kernel
theorem dX4_open_16 : decode cX4_open 16 = .ok (.iload_n 3, 1) := by decide +kernel
theorem dX4_open_17 : decode cX4_open 17 = .ok (.if_icmp .ge 13, 3) := by decide +kernel
theorem dX4_open_20 : decode cX4_open 20 = .ok (.new 75, 3) := by decide +kernel
theorem dX4_open_23 : decode cX4_open 23 = .ok (.dup, 1) := by decide +kernel
theorem dX4_open_24 : decode cX4_open 24 = .ok (.ldc 124, 2) := by decide +kernel
theorem dX4_open_26 : decode cX4_open 26 = .ok (.invokespecial 79, 3) := by decide +kernel
theorem dX4_open_29 : decode cX4_open 29 = .ok (.athrow, 1) := by decide +kernel
theorem dX4_open_30 : decode cX4_open 30 = .ok (.aload 7, 2) := by decide +kernel
theorem dX4_open_32 : decode cX4_open 32 = .ok (.aload 8, 2) := by decide +kernel
theorem dX4_open_34 : decode cX4_open 34 = .ok (.iload_n 3, 1) := by decide +kernel
theorem dX4_open_35 : decode cX4_open 35 = .ok (.iload 4, 2) := by decide +kernel
theorem dX4_open_37 : decode cX4_open 37 = .ok (.iload 5, 2) := by decide +kernel
theorem dX4_open_39 : decode cX4_open 39 = .ok (.iload 6, 2) := by decide +kernel
theorem dX4_open_41 : decode cX4_open 41 = .ok (.invokevirtual 126, 3) := by decide +kernel
theorem dX4_open_44 : decode cX4_open 44 = .ok (.aload 7, 2) := by decide +kernel
theorem dX4_open_46 : decode cX4_open 46 = .ok (.invokevirtual 130, 3) := by decide +kernel
theorem dX4_open_49 : decode cX4_open 49 = .ok (.ireturn, 1) := by decide +kernel
theorem dX4_cut_0 : decode cX4_cut 0 = .ok (.aload_n 0, 1) := by decide +kernel
theorem dX4_cut_1 : decode cX4_cut 1 = .ok (.iload_n 1, 1) := by decide +kernel
theorem dX4_cut_2 : decode cX4_cut 2 = .ok (.invokevirtual 120, 3) := by decide +kernel
theorem dX4_cut_5 : decode cX4_cut 5 = .ok (.astore 6, 2) := by decide +kernel
theorem dX4_cut_7 : decode cX4_cut 7 = .ok (.aload_n 0, 1) := by decide +kernel
theorem dX4_cut_8 : decode cX4_cut 8 = .ok (.iload_n 2, 1) := by decide +kernel
theorem dX4_cut_9 : decode cX4_cut 9 = .ok (.invokevirtual 120, 3) := by decide +kernel
theorem dX4_cut_12 : decode cX4_cut 12 = .ok (.astore 7, 2) := by decide +kernel
theorem dX4_cut_14 : decode cX4_cut 14 = .ok (.aload 7, 2) := by decide +kernel
theorem dX4_cut_16 : decode cX4_cut 16 = .ok (.invokestatic 134, 3) := by decide +kernel
theorem dX4_cut_19 : decode cX4_cut 19 = .ok (.aload 7, 2) := by decide +kernel
theorem dX4_cut_21 : decode cX4_cut 21 = .ok (.iload 4, 2) := by decide +kernel
theorem dX4_cut_23 : decode cX4_cut 23 = .ok (.invokevirtual 138, 3) := by decide +kernel
theorem dX4_cut_26 : decode cX4_cut 26 = .ok (.ifCond .ne 13, 3) := by decide +kernel
theorem dX4_cut_29 : decode cX4_cut 29 = .ok (.new 75, 3) := by decide +kernel
theorem dX4_cut_32 : decode cX4_cut 32 = .ok (.dup, 1) := by decide +kernel
theorem dX4_cut_33 : decode cX4_cut 33 = .ok (.ldc 141, 2) := by decide +kernel
theorem dX4_cut_35 : decode cX4_cut 35 = .ok (.invokespecial 79, 3) := by decide +kernel
theorem dX4_cut_38 : decode cX4_cut 38 = .ok (.athrow, 1) := by decide +kernel
theorem dX4_cut_39 : decode cX4_cut 39 = .ok (.aload 7, 2) := by decide +kernel
theorem dX4_cut_41 : decode cX4_cut 41 = .ok (.getfield 143, 3) := by decide +kernel
theorem dX4_cut_44 : decode cX4_cut 44 = .ok (.bipush 12, 2) := by decide +kernel
theorem dX4_cut_46 : decode cX4_cut 46 = .ok (.if_icmp .lt 13, 3) := by decide +kernel
theorem dX4_cut_49 : decode cX4_cut 49 = .ok (.new 146, 3) := by decide +kernel
theorem dX4_cut_52 : decode cX4_cut 52 = .ok (.dup, 1) := by decide +kernel
theorem dX4_cut_53 : decode cX4_cut 53 = .ok (.ldc 148, 2) := by decide +kernel
theorem dX4_cut_55 : decode cX4_cut 55 = .ok (.invokespecial 150, 3) := by decide +kernel
theorem dX4_cut_58 : decode cX4_cut 58 = .ok (.athrow, 1) := by decide +kernel
theorem dX4_cut_59 : decode cX4_cut 59 = .ok (.aload 6, 2) := by decide +kernel
theorem dX4_cut_61 : decode cX4_cut 61 = .ok (.aload 7, 2) := by decide +kernel
theorem dX4_cut_63 : decode cX4_cut 63 = .ok (.iload_n 3, 1) := by decide +kernel
theorem dX4_cut_64 : decode cX4_cut 64 = .ok (.iload 4, 2) := by decide +kernel
theorem dX4_cut_66 : decode cX4_cut 66 = .ok (.iload 5, 2) := by decide +kernel
theorem dX4_cut_68 : decode cX4_cut 68 = .ok (.invokevirtual 151, 3) := by decide +kernel
theorem dX4_cut_71 : decode cX4_cut 71 = .ok (.aload 6, 2) := by decide +kernel
theorem dX4_cut_73 : decode cX4_cut 73 = .ok (.invokevirtual 130, 3) := by decide +kernel
theorem dX4_cut_76 : decode cX4_cut 76 = .ok (.ireturn, 1) := by decide +kernel
theorem dX4_viewPut_0 : decode cX4_viewPut 0 = .ok (.aload_n 0, 1) := by decide +kernel
theorem dX4_viewPut_1 : decode cX4_viewPut 1 = .ok (.iload_n 1, 1) := by decide +kernel
theorem dX4_viewPut_2 : decode cX4_viewPut 2 = .ok (.invokevirtual 120, 3) := by decide +kernel
theorem dX4_viewPut_5 : decode cX4_viewPut 5 = .ok (.astore 4, 2) := by decide +kernel
theorem dX4_viewPut_7 : decode cX4_viewPut 7 = .ok (.aload 4, 2) := by decide +kernel
theorem dX4_viewPut_9 : decode cX4_viewPut 9 = .ok (.invokestatic 155, 3) := by decide +kernel
theorem dX4_viewPut_12 : decode cX4_viewPut 12 = .ok (.astore 5, 2) := by decide +kernel
theorem dX4_viewPut_14 : decode cX4_viewPut 14 = .ok (.aload 4, 2) := by decide +kernel
theorem dX4_viewPut_16 : decode cX4_viewPut 16 = .ok (.iload_n 2, 1) := by decide +kernel
theorem dX4_viewPut_17 : decode cX4_viewPut 17 = .ok (.invokevirtual 138, 3) := by decide +kernel
theorem dX4_viewPut_20 : decode cX4_viewPut 20 = .ok (.ifCond .ne 13, 3) := by decide +kernel
theorem dX4_viewPut_23 : decode cX4_viewPut 23 = .ok (.new 75, 3) := by decide +kernel
theorem dX4_viewPut_26 : decode cX4_viewPut 26 = .ok (.dup, 1) := by decide +kernel
theorem dX4_viewPut_27 : decode cX4_viewPut 27 = .ok (.ldc 159, 2) := by decide +kernel
theorem dX4_viewPut_29 : decode cX4_viewPut 29 = .ok (.invokespecial 79, 3) := by decide +kernel
theorem dX4_viewPut_32 : decode cX4_viewPut 32 = .ok (.athrow, 1) := by decide +kernel
theorem dX4_viewPut_33 : decode cX4_viewPut 33 = .ok (.aload 5, 2) := by decide +kernel
theorem dX4_viewPut_35 : decode cX4_viewPut 35 = .ok (.iload_n 2, 1) := by decide +kernel
theorem dX4_viewPut_36 : decode cX4_viewPut 36 = .ok (.iload_n 3, 1) := by decide +kernel
theorem dX4_viewPut_37 : decode cX4_viewPut 37 = .ok (.invokestatic 45, 3) := by decide +kernel
theorem dX4_viewPut_40 : decode cX4_viewPut 40 = .ok (.aload 4, 2) := by decide +kernel
theorem dX4_viewPut_42 : decode cX4_viewPut 42 = .ok (.invokevirtual 130, 3) := by decide +kernel
theorem dX4_viewPut_45 : decode cX4_viewPut 45 = .ok (.ireturn, 1) := by decide +kernel
theorem dX4_viewRemove_0 : decode cX4_viewRemove 0 = .ok (.aload_n 0, 1) := by decide +kernel
theorem dX4_viewRemove_1 : decode cX4_viewRemove 1 = .ok (.iload_n 1, 1) := by decide +kernel
theorem dX4_viewRemove_2 : decode cX4_viewRemove 2 = .ok (.invokevirtual 120, 3) := by decide +kernel
theorem dX4_viewRemove_5 : decode cX4_viewRemove 5 = .ok (.astore_n 3, 1) := by decide +kernel
theorem dX4_viewRemove_6 : decode cX4_viewRemove 6 = .ok (.aload_n 3, 1) := by decide +kernel
theorem dX4_viewRemove_7 : decode cX4_viewRemove 7 = .ok (.invokestatic 155, 3) := by decide +kernel
theorem dX4_viewRemove_10 : decode cX4_viewRemove 10 = .ok (.astore 4, 2) := by decide +kernel
theorem dX4_viewRemove_12 : decode cX4_viewRemove 12 = .ok (.aload_n 3, 1) := by decide +kernel
theorem dX4_viewRemove_13 : decode cX4_viewRemove 13 = .ok (.iload_n 2, 1) := by decide +kernel
theorem dX4_viewRemove_14 : decode cX4_viewRemove 14 = .ok (.invokevirtual 138, 3) := by decide +kernel
theorem dX4_viewRemove_17 : decode cX4_viewRemove 17 = .ok (.ifCond .eq 16, 3) := by decide +kernel
theorem dX4_viewRemove_20 : decode cX4_viewRemove 20 = .ok (.aload 4, 2) := by decide +kernel
theorem dX4_viewRemove_22 : decode cX4_viewRemove 22 = .ok (.iload_n 2, 1) := by decide +kernel
theorem dX4_viewRemove_23 : decode cX4_viewRemove 23 = .ok (.invokevirtual 67, 3) := by decide +kernel
theorem dX4_viewRemove_26 : decode cX4_viewRemove 26 = .ok (.ifCond .eq 7, 3) := by decide +kernel
theorem dX4_viewRemove_29 : decode cX4_viewRemove 29 = .ok (.iconst 1, 1) := by decide +kernel
theorem dX4_viewRemove_30 : decode cX4_viewRemove 30 = .ok (.goto 4, 3) := by decide +kernel
theorem dX4_viewRemove_33 : decode cX4_viewRemove 33 = .ok (.iconst 0, 1) := by decide +kernel
theorem dX4_viewRemove_34 : decode cX4_viewRemove 34 = .ok (.ireturn, 1) := by decide +kernel
theorem dX4_viewNear_0 : decode cX4_viewNear 0 = .ok (.aload_n 0, 1) := by decide +kernel
theorem dX4_viewNear_1 : decode cX4_viewNear 1 = .ok (.iload_n 1, 1) := by decide +kernel
theorem dX4_viewNear_2 : decode cX4_viewNear 2 = .ok (.invokevirtual 120, 3) := by decide +kernel
theorem dX4_viewNear_5 : decode cX4_viewNear 5 = .ok (.astore 4, 2) := by decide +kernel
theorem dX4_viewNear_7 : decode cX4_viewNear 7 = .ok (.iload_n 3, 1) := by decide +kernel
theorem dX4_viewNear_8 : decode cX4_viewNear 8 = .ok (.invokestatic 71, 3) := by decide +kernel
theorem dX4_viewNear_11 : decode cX4_viewNear 11 = .ok (.ifCond .ne 13, 3) := by decide +kernel
theorem dX4_viewNear_14 : decode cX4_viewNear 14 = .ok (.new 75, 3) := by decide +kernel
theorem dX4_viewNear_17 : decode cX4_viewNear 17 = .ok (.dup, 1) := by decide +kernel
theorem dX4_viewNear_18 : decode cX4_viewNear 18 = .ok (.ldc 77, 2) := by decide +kernel
theorem dX4_viewNear_20 : decode cX4_viewNear 20 = .ok (.invokespecial 79, 3) := by decide +kernel
theorem dX4_viewNear_23 : decode cX4_viewNear 23 = .ok (.athrow, 1) := by decide +kernel
theorem dX4_viewNear_24 : decode cX4_viewNear 24 = .ok (.aload 4, 2) := by decide +kernel
theorem dX4_viewNear_26 : decode cX4_viewNear 26 = .ok (.invokestatic 155, 3) := by decide +kernel
theorem dX4_viewNear_29 : decode cX4_viewNear 29 = .ok (.astore 5, 2) := by decide +kernel
theorem dX4_viewNear_31 : decode cX4_viewNear 31 = .ok (.aload 5, 2) := by decide +kernel
theorem dX4_viewNear_33 : decode cX4_viewNear 33 = .ok (.iload_n 2, 1) := by decide +kernel
theorem dX4_viewNear_34 : decode cX4_viewNear 34 = .ok (.iload_n 3, 1) := by decide +kernel
theorem dX4_viewNear_35 : decode cX4_viewNear 35 = .ok (.aload 4, 2) := by decide +kernel
theorem dX4_viewNear_37 : decode cX4_viewNear 37 = .ok (.aload 5, 2) := by decide +kernel
theorem dX4_viewNear_39 : decode cX4_viewNear 39 = .ok (.invokevirtual 161, 3) := by decide +kernel
theorem dX4_viewNear_42 : decode cX4_viewNear 42 = .ok (.aload 4, 2) := by decide +kernel
theorem dX4_viewNear_44 : decode cX4_viewNear 44 = .ok (.aload 5, 2) := by decide +kernel
theorem dX4_viewNear_46 : decode cX4_viewNear 46 = .ok (.invokevirtual 165, 3) := by decide +kernel
theorem dX4_viewNear_49 : decode cX4_viewNear 49 = .ok (.invokevirtual 80, 3) := by decide +kernel
theorem dX4_viewNear_52 : decode cX4_viewNear 52 = .ok (.istore 6, 2) := by decide +kernel
theorem dX4_viewNear_54 : decode cX4_viewNear 54 = .ok (.iload 6, 2) := by decide +kernel
theorem dX4_viewNear_56 : decode cX4_viewNear 56 = .ok (.ifCond .ge 13, 3) := by decide +kernel
theorem dX4_viewNear_59 : decode cX4_viewNear 59 = .ok (.new 57, 3) := by decide +kernel
theorem dX4_viewNear_62 : decode cX4_viewNear 62 = .ok (.dup, 1) := by decide +kernel
theorem dX4_viewNear_63 : decode cX4_viewNear 63 = .ok (.ldc 168, 2) := by decide +kernel
theorem dX4_viewNear_65 : decode cX4_viewNear 65 = .ok (.invokespecial 61, 3) := by decide +kernel
theorem dX4_viewNear_68 : decode cX4_viewNear 68 = .ok (.athrow, 1) := by decide +kernel
theorem dX4_viewNear_69 : decode cX4_viewNear 69 = .ok (.aload 5, 2) := by decide +kernel
theorem dX4_viewNear_71 : decode cX4_viewNear 71 = .ok (.getfield 86, 3) := by decide +kernel
theorem dX4_viewNear_74 : decode cX4_viewNear 74 = .ok (.iload 6, 2) := by decide +kernel
theorem dX4_viewNear_76 : decode cX4_viewNear 76 = .ok (.iaload, 1) := by decide +kernel
theorem dX4_viewNear_77 : decode cX4_viewNear 77 = .ok (.ireturn, 1) := by decide +kernel
theorem dX4_viewEnd_0 : decode cX4_viewEnd 0 = .ok (.aload_n 0, 1) := by decide +kernel
theorem dX4_viewEnd_1 : decode cX4_viewEnd 1 = .ok (.iload_n 1, 1) := by decide +kernel
theorem dX4_viewEnd_2 : decode cX4_viewEnd 2 = .ok (.invokevirtual 120, 3) := by decide +kernel
theorem dX4_viewEnd_5 : decode cX4_viewEnd 5 = .ok (.astore_n 3, 1) := by decide +kernel
theorem dX4_viewEnd_6 : decode cX4_viewEnd 6 = .ok (.aload_n 3, 1) := by decide +kernel
theorem dX4_viewEnd_7 : decode cX4_viewEnd 7 = .ok (.invokestatic 155, 3) := by decide +kernel
theorem dX4_viewEnd_10 : decode cX4_viewEnd 10 = .ok (.astore 4, 2) := by decide +kernel
theorem dX4_viewEnd_12 : decode cX4_viewEnd 12 = .ok (.aload 4, 2) := by decide +kernel
theorem dX4_viewEnd_14 : decode cX4_viewEnd 14 = .ok (.getfield 86, 3) := by decide +kernel
theorem dX4_viewEnd_17 : decode cX4_viewEnd 17 = .ok (.aload_n 3, 1) := by decide +kernel
theorem dX4_viewEnd_18 : decode cX4_viewEnd 18 = .ok (.aload 4, 2) := by decide +kernel
theorem dX4_viewEnd_20 : decode cX4_viewEnd 20 = .ok (.invokevirtual 161, 3) := by decide +kernel
theorem dX4_viewEnd_23 : decode cX4_viewEnd 23 = .ok (.aload_n 3, 1) := by decide +kernel
theorem dX4_viewEnd_24 : decode cX4_viewEnd 24 = .ok (.aload 4, 2) := by decide +kernel
theorem dX4_viewEnd_26 : decode cX4_viewEnd 26 = .ok (.invokevirtual 165, 3) := by decide +kernel
theorem dX4_viewEnd_29 : decode cX4_viewEnd 29 = .ok (.iload_n 2, 1) := by decide +kernel
theorem dX4_viewEnd_30 : decode cX4_viewEnd 30 = .ok (.invokestatic 89, 3) := by decide +kernel
theorem dX4_viewEnd_33 : decode cX4_viewEnd 33 = .ok (.iaload, 1) := by decide +kernel
theorem dX4_viewEnd_34 : decode cX4_viewEnd 34 = .ok (.ireturn, 1) := by decide +kernel
theorem dX4_viewPoll_0 : decode cX4_viewPoll 0 = .ok (.aload_n 0, 1) := by decide +kernel
theorem dX4_viewPoll_1 : decode cX4_viewPoll 1 = .ok (.iload_n 1, 1) := by decide +kernel
theorem dX4_viewPoll_2 : decode cX4_viewPoll 2 = .ok (.invokevirtual 120, 3) := by decide +kernel
theorem dX4_viewPoll_5 : decode cX4_viewPoll 5 = .ok (.astore_n 3, 1) := by decide +kernel
theorem dX4_viewPoll_6 : decode cX4_viewPoll 6 = .ok (.aload_n 3, 1) := by decide +kernel
theorem dX4_viewPoll_7 : decode cX4_viewPoll 7 = .ok (.invokestatic 155, 3) := by decide +kernel
theorem dX4_viewPoll_10 : decode cX4_viewPoll 10 = .ok (.astore 4, 2) := by decide +kernel
theorem dX4_viewPoll_12 : decode cX4_viewPoll 12 = .ok (.aload_n 0, 1) := by decide +kernel
theorem dX4_viewPoll_13 : decode cX4_viewPoll 13 = .ok (.aload 4, 2) := by decide +kernel
theorem dX4_viewPoll_15 : decode cX4_viewPoll 15 = .ok (.aload_n 3, 1) := by decide +kernel
theorem dX4_viewPoll_16 : decode cX4_viewPoll 16 = .ok (.aload 4, 2) := by decide +kernel
theorem dX4_viewPoll_18 : decode cX4_viewPoll 18 = .ok (.invokevirtual 161, 3) := by decide +kernel
theorem dX4_viewPoll_21 : decode cX4_viewPoll 21 = .ok (.aload_n 3, 1) := by decide +kernel
theorem dX4_viewPoll_22 : decode cX4_viewPoll 22 = .ok (.aload 4, 2) := by decide +kernel
theorem dX4_viewPoll_24 : decode cX4_viewPoll 24 = .ok (.invokevirtual 165, 3) := by decide +kernel
theorem dX4_viewPoll_27 : decode cX4_viewPoll 27 = .ok (.iload_n 2, 1) := by decide +kernel
theorem dX4_viewPoll_28 : decode cX4_viewPoll 28 = .ok (.invokestatic 89, 3) := by decide +kernel
theorem dX4_viewPoll_31 : decode cX4_viewPoll 31 = .ok (.invokevirtual 93, 3) := by decide +kernel
theorem dX4_viewPoll_34 : decode cX4_viewPoll 34 = .ok (.ireturn, 1) := by decide +kernel
theorem dX4_viewClear_0 : decode cX4_viewClear 0 = .ok (.aload_n 0, 1) := by decide +kernel
theorem dX4_viewClear_1 : decode cX4_viewClear 1 = .ok (.iload_n 1, 1) := by decide +kernel
theorem dX4_viewClear_2 : decode cX4_viewClear 2 = .ok (.invokevirtual 120, 3) := by decide +kernel
theorem dX4_viewClear_5 : decode cX4_viewClear 5 = .ok (.astore_n 2, 1) := by decide +kernel
theorem dX4_viewClear_6 : decode cX4_viewClear 6 = .ok (.aload_n 2, 1) := by decide +kernel
theorem dX4_viewClear_7 : decode cX4_viewClear 7 = .ok (.invokestatic 155, 3) := by decide +kernel
theorem dX4_viewClear_10 : decode cX4_viewClear 10 = .ok (.astore_n 3, 1) := by decide +kernel
theorem dX4_viewClear_11 : decode cX4_viewClear 11 = .ok (.aload_n 3, 1) := by decide +kernel
theorem dX4_viewClear_12 : decode cX4_viewClear 12 = .ok (.getfield 49, 3) := by decide +kernel
theorem dX4_viewClear_15 : decode cX4_viewClear 15 = .ok (.istore 4, 2) := by decide +kernel
theorem dX4_viewClear_17 : decode cX4_viewClear 17 = .ok (.aload_n 3, 1) := by decide +kernel
theorem dX4_viewClear_18 : decode cX4_viewClear 18 = .ok (.aload_n 2, 1) := by decide +kernel
theorem dX4_viewClear_19 : decode cX4_viewClear 19 = .ok (.aload_n 3, 1) := by decide +kernel
theorem dX4_viewClear_20 : decode cX4_viewClear 20 = .ok (.invokevirtual 161, 3) := by decide +kernel
theorem dX4_viewClear_23 : decode cX4_viewClear 23 = .ok (.aload_n 2, 1) := by decide +kernel
theorem dX4_viewClear_24 : decode cX4_viewClear 24 = .ok (.aload_n 3, 1) := by decide +kernel
theorem dX4_viewClear_25 : decode cX4_viewClear 25 = .ok (.invokevirtual 165, 3) := by decide +kernel
theorem dX4_viewClear_28 : decode cX4_viewClear 28 = .ok (.invokevirtual 170, 3) := by decide +kernel
theorem dX4_viewClear_31 : decode cX4_viewClear 31 = .ok (.iload 4, 2) := by decide +kernel
theorem dX4_viewClear_33 : decode cX4_viewClear 33 = .ok (.aload_n 3, 1) := by decide +kernel
theorem dX4_viewClear_34 : decode cX4_viewClear 34 = .ok (.getfield 49, 3) := by decide +kernel
theorem dX4_viewClear_37 : decode cX4_viewClear 37 = .ok (.isub, 1) := by decide +kernel
theorem dX4_viewClear_38 : decode cX4_viewClear 38 = .ok (.ireturn, 1) := by decide +kernel
theorem dX4_viewSize_0 : decode cX4_viewSize 0 = .ok (.aload_n 0, 1) := by decide +kernel
theorem dX4_viewSize_1 : decode cX4_viewSize 1 = .ok (.iload_n 1, 1) := by decide +kernel
theorem dX4_viewSize_2 : decode cX4_viewSize 2 = .ok (.invokevirtual 120, 3) := by decide +kernel
theorem dX4_viewSize_5 : decode cX4_viewSize 5 = .ok (.invokevirtual 130, 3) := by decide +kernel
theorem dX4_viewSize_8 : decode cX4_viewSize 8 = .ok (.ireturn, 1) := by decide +kernel
theorem dX4_lies_0 : decode cX4_lies 0 = .ok (.aload_n 0, 1) := by decide +kernel
theorem dX4_lies_1 : decode cX4_lies 1 = .ok (.iload_n 1, 1) := by decide +kernel
theorem dX4_lies_2 : decode cX4_lies 2 = .ok (.invokevirtual 120, 3) := by decide +kernel
theorem dX4_lies_5 : decode cX4_lies 5 = .ok (.astore_n 3, 1) := by decide +kernel
theorem dX4_lies_6 : decode cX4_lies 6 = .ok (.aload_n 3, 1) := by decide +kernel
theorem dX4_lies_7 : decode cX4_lies 7 = .ok (.invokestatic 134, 3) := by decide +kernel
theorem dX4_lies_10 : decode cX4_lies 10 = .ok (.aload_n 3, 1) := by decide +kernel
theorem dX4_lies_11 : decode cX4_lies 11 = .ok (.iload_n 2, 1) := by decide +kernel
theorem dX4_lies_12 : decode cX4_lies 12 = .ok (.invokevirtual 138, 3) := by decide +kernel
theorem dX4_lies_15 : decode cX4_lies 15 = .ok (.ireturn, 1) := by decide +kernel
theorem dX4_step_0 : decode cX4_step 0 = .ok (.aload_n 0, 1) := by decide +kernel
theorem dX4_step_1 : decode cX4_step 1 = .ok (.iload_n 1, 1) := by decide +kernel
theorem dX4_step_2 : decode cX4_step 2 = .ok (.invokevirtual 174, 3) := by decide +kernel
theorem dX4_step_5 : decode cX4_step 5 = .ok (.astore 5, 2) := by decide +kernel
theorem dX4_step_7 : decode cX4_step 7 = .ok (.iload_n 2, 1) := by decide +kernel
theorem dX4_step_8 : decode cX4_step 8 = .ok (.invokestatic 178, 3) := by decide +kernel
theorem dX4_step_11 : decode cX4_step 11 = .ok (.ifCond .ne 13, 3) := by decide +kernel
theorem dX4_step_14 : decode cX4_step 14 = .ok (.new 75, 3) := by decide +kernel
theorem dX4_step_17 : decode cX4_step 17 = .ok (.dup, 1) := by decide +kernel
theorem dX4_step_18 : decode cX4_step 18 = .ok (.ldc 181, 2) := by decide +kernel
theorem dX4_step_20 : decode cX4_step 20 = .ok (.invokespecial 79, 3) := by decide +kernel
theorem dX4_step_23 : decode cX4_step 23 = .ok (.athrow, 1) := by decide +kernel
theorem dX4_step_24 : decode cX4_step 24 = .ok (.aload 5, 2) := by decide +kernel
theorem dX4_step_26 : decode cX4_step 26 = .ok (.getfield 183, 3) := by decide +kernel
theorem dX4_step_29 : decode cX4_step 29 = .ok (.bipush 30, 2) := by decide +kernel
theorem dX4_step_31 : decode cX4_step 31 = .ok (.if_icmp .lt 13, 3) := by decide +kernel
theorem dX4_step_34 : decode cX4_step 34 = .ok (.new 146, 3) := by decide +kernel
theorem dX4_step_37 : decode cX4_step 37 = .ok (.dup, 1) := by decide +kernel
theorem dX4_step_38 : decode cX4_step 38 = .ok (.ldc 184, 2) := by decide +kernel
theorem dX4_step_40 : decode cX4_step 40 = .ok (.invokespecial 150, 3) := by decide +kernel
theorem dX4_step_43 : decode cX4_step 43 = .ok (.athrow, 1) := by decide +kernel
theorem dX4_step_44 : decode cX4_step 44 = .ok (.aload 5, 2) := by decide +kernel
theorem dX4_step_46 : decode cX4_step 46 = .ok (.iload_n 2, 1) := by decide +kernel
theorem dX4_step_47 : decode cX4_step 47 = .ok (.iload_n 3, 1) := by decide +kernel
theorem dX4_step_48 : decode cX4_step 48 = .ok (.iload 4, 2) := by decide +kernel
theorem dX4_step_50 : decode cX4_step 50 = .ok (.invokevirtual 186, 3) := by decide +kernel
theorem dX4_step_53 : decode cX4_step 53 = .ok (.aload 5, 2) := by decide +kernel
theorem dX4_step_55 : decode cX4_step 55 = .ok (.getfield 183, 3) := by decide +kernel
theorem dX4_step_58 : decode cX4_step 58 = .ok (.ireturn, 1) := by decide +kernel
theorem dX4_forget_0 : decode cX4_forget 0 = .ok (.aload_n 0, 1) := by decide +kernel
theorem dX4_forget_1 : decode cX4_forget 1 = .ok (.iload_n 1, 1) := by decide +kernel
theorem dX4_forget_2 : decode cX4_forget 2 = .ok (.invokevirtual 174, 3) := by decide +kernel
theorem dX4_forget_5 : decode cX4_forget 5 = .ok (.astore_n 2, 1) := by decide +kernel
theorem dX4_forget_6 : decode cX4_forget 6 = .ok (.aload_n 2, 1) := by decide +kernel
theorem dX4_forget_7 : decode cX4_forget 7 = .ok (.getfield 183, 3) := by decide +kernel
theorem dX4_forget_10 : decode cX4_forget 10 = .ok (.istore_n 3, 1) := by decide +kernel
theorem dX4_forget_11 : decode cX4_forget 11 = .ok (.aload_n 2, 1) := by decide +kernel
theorem dX4_forget_12 : decode cX4_forget 12 = .ok (.iconst 0, 1) := by decide +kernel
theorem dX4_forget_13 : decode cX4_forget 13 = .ok (.putfield 183, 3) := by decide +kernel
theorem dX4_forget_16 : decode cX4_forget 16 = .ok (.iload_n 3, 1) := by decide +kernel
theorem dX4_forget_17 : decode cX4_forget 17 = .ok (.ireturn, 1) := by decide +kernel
theorem dX4_play_0 : decode cX4_play 0 = .ok (.aload_n 0, 1) := by decide +kernel
theorem dX4_play_1 : decode cX4_play 1 = .ok (.iload_n 1, 1) := by decide +kernel
theorem dX4_play_2 : decode cX4_play 2 = .ok (.invokevirtual 174, 3) := by decide +kernel
theorem dX4_play_5 : decode cX4_play 5 = .ok (.astore_n 3, 1) := by decide +kernel
theorem dX4_play_6 : decode cX4_play 6 = .ok (.aload_n 0, 1) := by decide +kernel
theorem dX4_play_7 : decode cX4_play 7 = .ok (.iload_n 2, 1) := by decide +kernel
theorem dX4_play_8 : decode cX4_play 8 = .ok (.invokevirtual 41, 3) := by decide +kernel
theorem dX4_play_11 : decode cX4_play 11 = .ok (.astore 4, 2) := by decide +kernel
theorem dX4_play_13 : decode cX4_play 13 = .ok (.aload_n 0, 1) := by decide +kernel
theorem dX4_play_14 : decode cX4_play 14 = .ok (.getfield 30, 3) := by decide +kernel
theorem dX4_play_17 : decode cX4_play 17 = .ok (.aload 4, 2) := by decide +kernel
theorem dX4_play_19 : decode cX4_play 19 = .ok (.aload_n 3, 1) := by decide +kernel
theorem dX4_play_20 : decode cX4_play 20 = .ok (.aload_n 3, 1) := by decide +kernel
theorem dX4_play_21 : decode cX4_play 21 = .ok (.invokevirtual 190, 3) := by decide +kernel
theorem dX4_play_24 : decode cX4_play 24 = .ok (.ifCond .ne 13, 3) := by decide +kernel
theorem dX4_play_27 : decode cX4_play 27 = .ok (.new 146, 3) := by decide +kernel
theorem dX4_play_30 : decode cX4_play 30 = .ok (.dup, 1) := by decide +kernel
theorem dX4_play_31 : decode cX4_play 31 = .ok (.ldc 194, 2) := by decide +kernel
theorem dX4_play_33 : decode cX4_play 33 = .ok (.invokespecial 150, 3) := by decide +kernel
theorem dX4_play_36 : decode cX4_play 36 = .ok (.athrow, 1) := by decide +kernel
theorem dX4_play_37 : decode cX4_play 37 = .ok (.aload_n 3, 1) := by decide +kernel
theorem dX4_play_38 : decode cX4_play 38 = .ok (.aload 4, 2) := by decide +kernel
theorem dX4_play_40 : decode cX4_play 40 = .ok (.invokevirtual 196, 3) := by decide +kernel
theorem dX4_play_43 : decode cX4_play 43 = .ok (.ireturn, 1) := by decide +kernel
theorem dX4_playBoth_0 : decode cX4_playBoth 0 = .ok (.aload_n 0, 1) := by decide +kernel
theorem dX4_playBoth_1 : decode cX4_playBoth 1 = .ok (.iload_n 1, 1) := by decide +kernel
theorem dX4_playBoth_2 : decode cX4_playBoth 2 = .ok (.invokevirtual 174, 3) := by decide +kernel
theorem dX4_playBoth_5 : decode cX4_playBoth 5 = .ok (.astore 5, 2) := by decide +kernel
theorem dX4_playBoth_7 : decode cX4_playBoth 7 = .ok (.aload_n 0, 1) := by decide +kernel
theorem dX4_playBoth_8 : decode cX4_playBoth 8 = .ok (.iload_n 2, 1) := by decide +kernel
theorem dX4_playBoth_9 : decode cX4_playBoth 9 = .ok (.invokevirtual 174, 3) := by decide +kernel
theorem dX4_playBoth_12 : decode cX4_playBoth 12 = .ok (.astore 6, 2) := by decide +kernel
theorem dX4_playBoth_14 : decode cX4_playBoth 14 = .ok (.aload_n 0, 1) := by decide +kernel
theorem dX4_playBoth_15 : decode cX4_playBoth 15 = .ok (.iload 4, 2) := by decide +kernel
theorem dX4_playBoth_17 : decode cX4_playBoth 17 = .ok (.invokevirtual 41, 3) := by decide +kernel
theorem dX4_playBoth_20 : decode cX4_playBoth 20 = .ok (.astore 7, 2) := by decide +kernel
theorem dX4_playBoth_22 : decode cX4_playBoth 22 = .ok (.aload_n 0, 1) := by decide +kernel
theorem dX4_playBoth_23 : decode cX4_playBoth 23 = .ok (.getfield 30, 3) := by decide +kernel
theorem dX4_playBoth_26 : decode cX4_playBoth 26 = .ok (.aload 7, 2) := by decide +kernel
theorem dX4_playBoth_28 : decode cX4_playBoth 28 = .ok (.aload 5, 2) := by decide +kernel
theorem dX4_playBoth_30 : decode cX4_playBoth 30 = .ok (.aload 6, 2) := by decide +kernel
theorem dX4_playBoth_32 : decode cX4_playBoth 32 = .ok (.invokevirtual 190, 3) := by decide +kernel
theorem dX4_playBoth_35 : decode cX4_playBoth 35 = .ok (.ifCond .ne 13, 3) := by decide +kernel
theorem dX4_playBoth_38 : decode cX4_playBoth 38 = .ok (.new 146, 3) := by decide +kernel
theorem dX4_playBoth_41 : decode cX4_playBoth 41 = .ok (.dup, 1) := by decide +kernel
theorem dX4_playBoth_42 : decode cX4_playBoth 42 = .ok (.ldc 199, 2) := by decide +kernel
theorem dX4_playBoth_44 : decode cX4_playBoth 44 = .ok (.invokespecial 150, 3) := by decide +kernel
theorem dX4_playBoth_47 : decode cX4_playBoth 47 = .ok (.athrow, 1) := by decide +kernel
theorem dX4_playBoth_48 : decode cX4_playBoth 48 = .ok (.aload 5, 2) := by decide +kernel
theorem dX4_playBoth_50 : decode cX4_playBoth 50 = .ok (.aload 6, 2) := by decide +kernel
theorem dX4_playBoth_52 : decode cX4_playBoth 52 = .ok (.iload_n 3, 1) := by decide +kernel
theorem dX4_playBoth_53 : decode cX4_playBoth 53 = .ok (.aload 7, 2) := by decide +kernel
theorem dX4_playBoth_55 : decode cX4_playBoth 55 = .ok (.invokestatic 201, 3) := by decide +kernel
theorem dX4_playBoth_58 : decode cX4_playBoth 58 = .ok (.aload 7, 2) := by decide +kernel
theorem dX4_playBoth_60 : decode cX4_playBoth 60 = .ok (.getfield 49, 3) := by decide +kernel
theorem dX4_playBoth_63 : decode cX4_playBoth 63 = .ok (.ireturn, 1) := by decide +kernel
theorem dX4_meet_0 : decode cX4_meet 0 = .ok (.aload_n 0, 1) := by decide +kernel
theorem dX4_meet_1 : decode cX4_meet 1 = .ok (.iload_n 1, 1) := by decide +kernel
theorem dX4_meet_2 : decode cX4_meet 2 = .ok (.invokevirtual 174, 3) := by decide +kernel
theorem dX4_meet_5 : decode cX4_meet 5 = .ok (.astore_n 3, 1) := by decide +kernel
theorem dX4_meet_6 : decode cX4_meet 6 = .ok (.aload_n 0, 1) := by decide +kernel
theorem dX4_meet_7 : decode cX4_meet 7 = .ok (.getfield 30, 3) := by decide +kernel
theorem dX4_meet_10 : decode cX4_meet 10 = .ok (.aload_n 3, 1) := by decide +kernel
theorem dX4_meet_11 : decode cX4_meet 11 = .ok (.aload_n 0, 1) := by decide +kernel
theorem dX4_meet_12 : decode cX4_meet 12 = .ok (.iload_n 2, 1) := by decide +kernel
theorem dX4_meet_13 : decode cX4_meet 13 = .ok (.invokevirtual 174, 3) := by decide +kernel
theorem dX4_meet_16 : decode cX4_meet 16 = .ok (.invokevirtual 205, 3) := by decide +kernel
theorem dX4_meet_19 : decode cX4_meet 19 = .ok (.ireturn, 1) := by decide +kernel
theorem dX4_opposite_0 : decode cX4_opposite 0 = .ok (.aload_n 0, 1) := by decide +kernel
theorem dX4_opposite_1 : decode cX4_opposite 1 = .ok (.iload_n 1, 1) := by decide +kernel
theorem dX4_opposite_2 : decode cX4_opposite 2 = .ok (.invokevirtual 174, 3) := by decide +kernel
theorem dX4_opposite_5 : decode cX4_opposite 5 = .ok (.astore 4, 2) := by decide +kernel
theorem dX4_opposite_7 : decode cX4_opposite 7 = .ok (.aload_n 0, 1) := by decide +kernel
theorem dX4_opposite_8 : decode cX4_opposite 8 = .ok (.iload_n 2, 1) := by decide +kernel
theorem dX4_opposite_9 : decode cX4_opposite 9 = .ok (.invokevirtual 41, 3) := by decide +kernel
theorem dX4_opposite_12 : decode cX4_opposite 12 = .ok (.astore 5, 2) := by decide +kernel
theorem dX4_opposite_14 : decode cX4_opposite 14 = .ok (.aload_n 0, 1) := by decide +kernel
theorem dX4_opposite_15 : decode cX4_opposite 15 = .ok (.iload_n 3, 1) := by decide +kernel
theorem dX4_opposite_16 : decode cX4_opposite 16 = .ok (.invokevirtual 174, 3) := by decide +kernel
theorem dX4_opposite_19 : decode cX4_opposite 19 = .ok (.astore 6, 2) := by decide +kernel
theorem dX4_opposite_21 : decode cX4_opposite 21 = .ok (.aload_n 0, 1) := by decide +kernel
theorem dX4_opposite_22 : decode cX4_opposite 22 = .ok (.getfield 30, 3) := by decide +kernel
theorem dX4_opposite_25 : decode cX4_opposite 25 = .ok (.aload 4, 2) := by decide +kernel
theorem dX4_opposite_27 : decode cX4_opposite 27 = .ok (.aload 5, 2) := by decide +kernel
theorem dX4_opposite_29 : decode cX4_opposite 29 = .ok (.aload 6, 2) := by decide +kernel
theorem dX4_opposite_31 : decode cX4_opposite 31 = .ok (.invokevirtual 209, 3) := by decide +kernel
theorem dX4_opposite_34 : decode cX4_opposite 34 = .ok (.aload 6, 2) := by decide +kernel
theorem dX4_opposite_36 : decode cX4_opposite 36 = .ok (.getfield 183, 3) := by decide +kernel
theorem dX4_opposite_39 : decode cX4_opposite 39 = .ok (.ireturn, 1) := by decide +kernel
theorem dX4_combine_0 : decode cX4_combine 0 = .ok (.aload_n 0, 1) := by decide +kernel
theorem dX4_combine_1 : decode cX4_combine 1 = .ok (.iload_n 1, 1) := by decide +kernel
theorem dX4_combine_2 : decode cX4_combine 2 = .ok (.invokevirtual 41, 3) := by decide +kernel
theorem dX4_combine_5 : decode cX4_combine 5 = .ok (.astore 4, 2) := by decide +kernel
theorem dX4_combine_7 : decode cX4_combine 7 = .ok (.aload_n 0, 1) := by decide +kernel
theorem dX4_combine_8 : decode cX4_combine 8 = .ok (.iload_n 2, 1) := by decide +kernel
theorem dX4_combine_9 : decode cX4_combine 9 = .ok (.invokevirtual 41, 3) := by decide +kernel
theorem dX4_combine_12 : decode cX4_combine 12 = .ok (.astore 5, 2) := by decide +kernel
theorem dX4_combine_14 : decode cX4_combine 14 = .ok (.iload_n 3, 1) := by decide +kernel
theorem dX4_combine_15 : decode cX4_combine 15 = .ok (.invokestatic 213, 3) := by decide +kernel
theorem dX4_combine_18 : decode cX4_combine 18 = .ok (.ifCond .eq 8, 3) := by decide +kernel
theorem dX4_combine_21 : decode cX4_combine 21 = .ok (.iload_n 1, 1) := by decide +kernel
theorem dX4_combine_22 : decode cX4_combine 22 = .ok (.iload_n 2, 1) := by decide +kernel
theorem dX4_combine_23 : decode cX4_combine 23 = .ok (.if_icmp .ne 13, 3) := by decide +kernel
theorem dX4_combine_26 : decode cX4_combine 26 = .ok (.new 75, 3) := by decide +kernel
theorem dX4_combine_29 : decode cX4_combine 29 = .ok (.dup, 1) := by decide +kernel
theorem dX4_combine_30 : decode cX4_combine 30 = .ok (.ldc 216, 2) := by decide +kernel
theorem dX4_combine_32 : decode cX4_combine 32 = .ok (.invokespecial 79, 3) := by decide +kernel
theorem dX4_combine_35 : decode cX4_combine 35 = .ok (.athrow, 1) := by decide +kernel
theorem dX4_combine_36 : decode cX4_combine 36 = .ok (.aload 5, 2) := by decide +kernel
theorem dX4_combine_38 : decode cX4_combine 38 = .ok (.getfield 49, 3) := by decide +kernel
theorem dX4_combine_41 : decode cX4_combine 41 = .ok (.aload 4, 2) := by decide +kernel
theorem dX4_combine_43 : decode cX4_combine 43 = .ok (.aload 5, 2) := by decide +kernel
theorem dX4_combine_45 : decode cX4_combine 45 = .ok (.invokevirtual 218, 3) := by decide +kernel
theorem dX4_combine_48 : decode cX4_combine 48 = .ok (.iadd, 1) := by decide +kernel
theorem dX4_combine_49 : decode cX4_combine 49 = .ok (.bipush 60, 2) := by decide +kernel
theorem dX4_combine_51 : decode cX4_combine 51 = .ok (.if_icmp .le 13, 3) := by decide +kernel
theorem dX4_combine_54 : decode cX4_combine 54 = .ok (.new 146, 3) := by decide +kernel
theorem dX4_combine_57 : decode cX4_combine 57 = .ok (.dup, 1) := by decide +kernel
theorem dX4_combine_58 : decode cX4_combine 58 = .ok (.ldc 221, 2) := by decide +kernel
theorem dX4_combine_60 : decode cX4_combine 60 = .ok (.invokespecial 150, 3) := by decide +kernel
theorem dX4_combine_63 : decode cX4_combine 63 = .ok (.athrow, 1) := by decide +kernel
theorem dX4_combine_64 : decode cX4_combine 64 = .ok (.aload 5, 2) := by decide +kernel
theorem dX4_combine_66 : decode cX4_combine 66 = .ok (.aload 4, 2) := by decide +kernel
theorem dX4_combine_68 : decode cX4_combine 68 = .ok (.iload_n 3, 1) := by decide +kernel
theorem dX4_combine_69 : decode cX4_combine 69 = .ok (.invokevirtual 223, 3) := by decide +kernel
theorem dX4_combine_72 : decode cX4_combine 72 = .ok (.aload 5, 2) := by decide +kernel
theorem dX4_combine_74 : decode cX4_combine 74 = .ok (.getfield 49, 3) := by decide +kernel
theorem dX4_combine_77 : decode cX4_combine 77 = .ok (.ireturn, 1) := by decide +kernel
theorem dX4_fullShare_0 : decode cX4_fullShare 0 = .ok (.aload_n 0, 1) := by decide +kernel
theorem dX4_fullShare_1 : decode cX4_fullShare 1 = .ok (.iload_n 1, 1) := by decide +kernel
theorem dX4_fullShare_2 : decode cX4_fullShare 2 = .ok (.invokevirtual 41, 3) := by decide +kernel
theorem dX4_fullShare_5 : decode cX4_fullShare 5 = .ok (.getfield 49, 3) := by decide +kernel
theorem dX4_fullShare_8 : decode cX4_fullShare 8 = .ok (.i2f, 1) := by decide +kernel
theorem dX4_fullShare_9 : decode cX4_fullShare 9 = .ok (.ldc 227, 2) := by decide +kernel
theorem dX4_fullShare_11 : decode cX4_fullShare 11 = .ok (.fdiv, 1) := by decide +kernel
theorem dX4_fullShare_12 : decode cX4_fullShare 12 = .ok (.freturn, 1) := by decide +kernel
theorem dX4_meanKey_0 : decode cX4_meanKey 0 = .ok (.aload_n 0, 1) := by decide +kernel
theorem dX4_meanKey_1 : decode cX4_meanKey 1 = .ok (.iload_n 1, 1) := by decide +kernel
theorem dX4_meanKey_2 : decode cX4_meanKey 2 = .ok (.invokevirtual 41, 3) := by decide +kernel
theorem dX4_meanKey_5 : decode cX4_meanKey 5 = .ok (.astore_n 2, 1) := by decide +kernel
theorem dX4_meanKey_6 : decode cX4_meanKey 6 = .ok (.aload_n 2, 1) := by decide +kernel
theorem dX4_meanKey_7 : decode cX4_meanKey 7 = .ok (.getfield 49, 3) := by decide +kernel
theorem dX4_meanKey_10 : decode cX4_meanKey 10 = .ok (.ifCond .ne 13, 3) := by decide +kernel
theorem dX4_meanKey_13 : decode cX4_meanKey 13 = .ok (.new 228, 3) := by decide +kernel
theorem dX4_meanKey_16 : decode cX4_meanKey 16 = .ok (.dup, 1) := by decide +kernel
theorem dX4_meanKey_17 : decode cX4_meanKey 17 = .ok (.ldc 230, 2) := by decide +kernel
theorem dX4_meanKey_19 : decode cX4_meanKey 19 = .ok (.invokespecial 232, 3) := by decide +kernel
theorem dX4_meanKey_22 : decode cX4_meanKey 22 = .ok (.athrow, 1) := by decide +kernel
theorem dX4_meanKey_23 : decode cX4_meanKey 23 = .ok (.lconst 0, 1) := by decide +kernel
theorem dX4_meanKey_24 : decode cX4_meanKey 24 = .ok (.lstore_n 3, 1) := by decide +kernel
theorem dX4_meanKey_25 : decode cX4_meanKey 25 = .ok (.iconst 0, 1) := by decide +kernel
theorem dX4_meanKey_26 : decode cX4_meanKey 26 = .ok (.istore 5, 2) := by decide +kernel
theorem dX4_meanKey_28 : decode cX4_meanKey 28 = .ok (.iload 5, 2) := by decide +kernel
theorem dX4_meanKey_30 : decode cX4_meanKey 30 = .ok (.aload_n 2, 1) := by decide +kernel
theorem dX4_meanKey_31 : decode cX4_meanKey 31 = .ok (.getfield 49, 3) := by decide +kernel
theorem dX4_meanKey_34 : decode cX4_meanKey 34 = .ok (.if_icmp .ge 20, 3) := by decide +kernel
theorem dX4_meanKey_37 : decode cX4_meanKey 37 = .ok (.lload_n 3, 1) := by decide +kernel
theorem dX4_meanKey_38 : decode cX4_meanKey 38 = .ok (.aload_n 2, 1) := by decide +kernel
theorem dX4_meanKey_39 : decode cX4_meanKey 39 = .ok (.getfield 86, 3) := by decide +kernel
theorem dX4_meanKey_42 : decode cX4_meanKey 42 = .ok (.iload 5, 2) := by decide +kernel
theorem dX4_meanKey_44 : decode cX4_meanKey 44 = .ok (.iaload, 1) := by decide +kernel
theorem dX4_meanKey_45 : decode cX4_meanKey 45 = .ok (.i2l, 1) := by decide +kernel
theorem dX4_meanKey_46 : decode cX4_meanKey 46 = .ok (.ladd, 1) := by decide +kernel
theorem dX4_meanKey_47 : decode cX4_meanKey 47 = .ok (.lstore_n 3, 1) := by decide +kernel
theorem dX4_meanKey_48 : decode cX4_meanKey 48 = .ok (.iinc 5 1, 3) := by decide +kernel
theorem dX4_meanKey_51 : decode cX4_meanKey 51 = .ok (.goto (-23), 3) := by decide +kernel
theorem dX4_meanKey_54 : decode cX4_meanKey 54 = .ok (.lload_n 3, 1) := by decide +kernel
theorem dX4_meanKey_55 : decode cX4_meanKey 55 = .ok (.l2d, 1) := by decide +kernel
theorem dX4_meanKey_56 : decode cX4_meanKey 56 = .ok (.aload_n 2, 1) := by decide +kernel
theorem dX4_meanKey_57 : decode cX4_meanKey 57 = .ok (.getfield 49, 3) := by decide +kernel
theorem dX4_meanKey_60 : decode cX4_meanKey 60 = .ok (.i2d, 1) := by decide +kernel
theorem dX4_meanKey_61 : decode cX4_meanKey 61 = .ok (.ddiv, 1) := by decide +kernel
theorem dX4_meanKey_62 : decode cX4_meanKey 62 = .ok (.dreturn, 1) := by decide +kernel
theorem dX4_checksum_0 : decode cX4_checksum 0 = .ok (.ldc2_w 233, 3) := by decide +kernel
theorem dX4_checksum_3 : decode cX4_checksum 3 = .ok (.lstore_n 1, 1) := by decide +kernel
theorem dX4_checksum_4 : decode cX4_checksum 4 = .ok (.iconst 0, 1) := by decide +kernel
theorem dX4_checksum_5 : decode cX4_checksum 5 = .ok (.istore_n 3, 1) := by decide +kernel
theorem dX4_checksum_6 : decode cX4_checksum 6 = .ok (.iload_n 3, 1) := by decide +kernel
theorem dX4_checksum_7 : decode cX4_checksum 7 = .ok (.aload_n 0, 1) := by decide +kernel
theorem dX4_checksum_8 : decode cX4_checksum 8 = .ok (.getfield 11, 3) := by decide +kernel
theorem dX4_checksum_11 : decode cX4_checksum 11 = .ok (.arraylength, 1) := by decide +kernel
theorem dX4_checksum_12 : decode cX4_checksum 12 = .ok (.if_icmp .ge 20, 3) := by decide +kernel
theorem dX4_checksum_15 : decode cX4_checksum 15 = .ok (.aload_n 0, 1) := by decide +kernel
theorem dX4_checksum_16 : decode cX4_checksum 16 = .ok (.getfield 11, 3) := by decide +kernel
theorem dX4_checksum_19 : decode cX4_checksum 19 = .ok (.iload_n 3, 1) := by decide +kernel
theorem dX4_checksum_20 : decode cX4_checksum 20 = .ok (.aaload, 1) := by decide +kernel
theorem dX4_checksum_21 : decode cX4_checksum 21 = .ok (.lload_n 1, 1) := by decide +kernel
theorem dX4_checksum_22 : decode cX4_checksum 22 = .ok (.invokevirtual 235, 3) := by decide +kernel
theorem dX4_checksum_25 : decode cX4_checksum 25 = .ok (.lstore_n 1, 1) := by decide +kernel
theorem dX4_checksum_26 : decode cX4_checksum 26 = .ok (.iinc 3 1, 3) := by decide +kernel
theorem dX4_checksum_29 : decode cX4_checksum 29 = .ok (.goto (-23), 3) := by decide +kernel
theorem dX4_checksum_32 : decode cX4_checksum 32 = .ok (.iconst 0, 1) := by decide +kernel
theorem dX4_checksum_33 : decode cX4_checksum 33 = .ok (.istore_n 3, 1) := by decide +kernel
theorem dX4_checksum_34 : decode cX4_checksum 34 = .ok (.iload_n 3, 1) := by decide +kernel
theorem dX4_checksum_35 : decode cX4_checksum 35 = .ok (.aload_n 0, 1) := by decide +kernel
theorem dX4_checksum_36 : decode cX4_checksum 36 = .ok (.getfield 17, 3) := by decide +kernel
theorem dX4_checksum_39 : decode cX4_checksum 39 = .ok (.arraylength, 1) := by decide +kernel
theorem dX4_checksum_40 : decode cX4_checksum 40 = .ok (.if_icmp .ge 20, 3) := by decide +kernel
theorem dX4_checksum_43 : decode cX4_checksum 43 = .ok (.aload_n 0, 1) := by decide +kernel
theorem dX4_checksum_44 : decode cX4_checksum 44 = .ok (.getfield 17, 3) := by decide +kernel
theorem dX4_checksum_47 : decode cX4_checksum 47 = .ok (.iload_n 3, 1) := by decide +kernel
theorem dX4_checksum_48 : decode cX4_checksum 48 = .ok (.aaload, 1) := by decide +kernel
theorem dX4_checksum_49 : decode cX4_checksum 49 = .ok (.lload_n 1, 1) := by decide +kernel
theorem dX4_checksum_50 : decode cX4_checksum 50 = .ok (.invokevirtual 239, 3) := by decide +kernel
theorem dX4_checksum_53 : decode cX4_checksum 53 = .ok (.lstore_n 1, 1) := by decide +kernel
theorem dX4_checksum_54 : decode cX4_checksum 54 = .ok (.iinc 3 1, 3) := by decide +kernel
theorem dX4_checksum_57 : decode cX4_checksum 57 = .ok (.goto (-23), 3) := by decide +kernel
theorem dX4_checksum_60 : decode cX4_checksum 60 = .ok (.iconst 0, 1) := by decide +kernel
theorem dX4_checksum_61 : decode cX4_checksum 61 = .ok (.istore_n 3, 1) := by decide +kernel
theorem dX4_checksum_62 : decode cX4_checksum 62 = .ok (.iload_n 3, 1) := by decide +kernel
theorem dX4_checksum_63 : decode cX4_checksum 63 = .ok (.aload_n 0, 1) := by decide +kernel
theorem dX4_checksum_64 : decode cX4_checksum 64 = .ok (.getfield 23, 3) := by decide +kernel
theorem dX4_checksum_67 : decode cX4_checksum 67 = .ok (.arraylength, 1) := by decide +kernel
theorem dX4_checksum_68 : decode cX4_checksum 68 = .ok (.if_icmp .ge 20, 3) := by decide +kernel
theorem dX4_checksum_71 : decode cX4_checksum 71 = .ok (.aload_n 0, 1) := by decide +kernel
theorem dX4_checksum_72 : decode cX4_checksum 72 = .ok (.getfield 23, 3) := by decide +kernel
theorem dX4_checksum_75 : decode cX4_checksum 75 = .ok (.iload_n 3, 1) := by decide +kernel
theorem dX4_checksum_76 : decode cX4_checksum 76 = .ok (.aaload, 1) := by decide +kernel
theorem dX4_checksum_77 : decode cX4_checksum 77 = .ok (.lload_n 1, 1) := by decide +kernel
theorem dX4_checksum_78 : decode cX4_checksum 78 = .ok (.invokevirtual 240, 3) := by decide +kernel
theorem dX4_checksum_81 : decode cX4_checksum 81 = .ok (.lstore_n 1, 1) := by decide +kernel
theorem dX4_checksum_82 : decode cX4_checksum 82 = .ok (.iinc 3 1, 3) := by decide +kernel
theorem dX4_checksum_85 : decode cX4_checksum 85 = .ok (.goto (-23), 3) := by decide +kernel
theorem dX4_checksum_88 : decode cX4_checksum 88 = .ok (.lload_n 1, 1) := by decide +kernel
theorem dX4_checksum_89 : decode cX4_checksum 89 = .ok (.lreturn, 1) := by decide +kernel
theorem dX4_isSound_0 : decode cX4_isSound 0 = .ok (.aload_n 0, 1) := by decide +kernel
theorem dX4_isSound_1 : decode cX4_isSound 1 = .ok (.invokevirtual 241, 3) := by decide +kernel
theorem dX4_isSound_4 : decode cX4_isSound 4 = .ok (.ifCond .eq 35, 3) := by decide +kernel
theorem dX4_isSound_7 : decode cX4_isSound 7 = .ok (.aload_n 0, 1) := by decide +kernel
theorem dX4_isSound_8 : decode cX4_isSound 8 = .ok (.invokevirtual 245, 3) := by decide +kernel
theorem dX4_isSound_11 : decode cX4_isSound 11 = .ok (.ifCond .eq 28, 3) := by decide +kernel
theorem dX4_isSound_14 : decode cX4_isSound 14 = .ok (.aload_n 0, 1) := by decide +kernel
theorem dX4_isSound_15 : decode cX4_isSound 15 = .ok (.invokevirtual 248, 3) := by decide +kernel
theorem dX4_isSound_18 : decode cX4_isSound 18 = .ok (.ifCond .eq 21, 3) := by decide +kernel
theorem dX4_isSound_21 : decode cX4_isSound 21 = .ok (.aload_n 0, 1) := by decide +kernel
theorem dX4_isSound_22 : decode cX4_isSound 22 = .ok (.invokevirtual 251, 3) := by decide +kernel
theorem dX4_isSound_25 : decode cX4_isSound 25 = .ok (.ifCond .eq 14, 3) := by decide +kernel
theorem dX4_isSound_28 : decode cX4_isSound 28 = .ok (.aload_n 0, 1) := by decide +kernel
theorem dX4_isSound_29 : decode cX4_isSound 29 = .ok (.invokevirtual 254, 3) := by decide +kernel
theorem dX4_isSound_32 : decode cX4_isSound 32 = .ok (.ifCond .eq 7, 3) := by decide +kernel
theorem dX4_isSound_35 : decode cX4_isSound 35 = .ok (.iconst 1, 1) := by decide +kernel
theorem dX4_isSound_36 : decode cX4_isSound 36 = .ok (.goto 4, 3) := by decide +kernel
theorem dX4_isSound_39 : decode cX4_isSound 39 = .ok (.iconst 0, 1) := by decide +kernel
theorem dX4_isSound_40 : decode cX4_isSound 40 = .ok (.ireturn, 1) := by decide +kernel
theorem dX4_areMapsSound_0 : decode cX4_areMapsSound 0 = .ok (.iconst 0, 1) := by decide +kernel
theorem dX4_areMapsSound_1 : decode cX4_areMapsSound 1 = .ok (.istore_n 1, 1) := by decide +kernel
theorem dX4_areMapsSound_2 : decode cX4_areMapsSound 2 = .ok (.iload_n 1, 1) := by decide +kernel
theorem dX4_areMapsSound_3 : decode cX4_areMapsSound 3 = .ok (.aload_n 0, 1) := by decide +kernel
theorem dX4_areMapsSound_4 : decode cX4_areMapsSound 4 = .ok (.getfield 11, 3) := by decide +kernel
theorem dX4_areMapsSound_7 : decode cX4_areMapsSound 7 = .ok (.arraylength, 1) := by decide +kernel
theorem dX4_areMapsSound_8 : decode cX4_areMapsSound 8 = .ok (.if_icmp .ge 43, 3) := by decide +kernel
theorem dX4_areMapsSound_11 : decode cX4_areMapsSound 11 = .ok (.aload_n 0, 1) := by decide +kernel
theorem dX4_areMapsSound_12 : decode cX4_areMapsSound 12 = .ok (.getfield 30, 3) := by decide +kernel
theorem dX4_areMapsSound_15 : decode cX4_areMapsSound 15 = .ok (.aload_n 0, 1) := by decide +kernel
theorem dX4_areMapsSound_16 : decode cX4_areMapsSound 16 = .ok (.getfield 11, 3) := by decide +kernel
theorem dX4_areMapsSound_19 : decode cX4_areMapsSound 19 = .ok (.iload_n 1, 1) := by decide +kernel
theorem dX4_areMapsSound_20 : decode cX4_areMapsSound 20 = .ok (.aaload, 1) := by decide +kernel
theorem dX4_areMapsSound_21 : decode cX4_areMapsSound 21 = .ok (.invokevirtual 257, 3) := by decide +kernel
theorem dX4_areMapsSound_24 : decode cX4_areMapsSound 24 = .ok (.ifCond .eq 19, 3) := by decide +kernel
theorem dX4_areMapsSound_27 : decode cX4_areMapsSound 27 = .ok (.aload_n 0, 1) := by decide +kernel
theorem dX4_areMapsSound_28 : decode cX4_areMapsSound 28 = .ok (.getfield 30, 3) := by decide +kernel
theorem dX4_areMapsSound_31 : decode cX4_areMapsSound 31 = .ok (.aload_n 0, 1) := by decide +kernel
theorem dX4_areMapsSound_32 : decode cX4_areMapsSound 32 = .ok (.getfield 11, 3) := by decide +kernel
theorem dX4_areMapsSound_35 : decode cX4_areMapsSound 35 = .ok (.iload_n 1, 1) := by decide +kernel
theorem dX4_areMapsSound_36 : decode cX4_areMapsSound 36 = .ok (.aaload, 1) := by decide +kernel
theorem dX4_areMapsSound_37 : decode cX4_areMapsSound 37 = .ok (.invokevirtual 260, 3) := by decide +kernel
theorem dX4_areMapsSound_40 : decode cX4_areMapsSound 40 = .ok (.ifCond .ne 5, 3) := by decide +kernel
theorem dX4_areMapsSound_43 : decode cX4_areMapsSound 43 = .ok (.iconst 0, 1) := by decide +kernel
theorem dX4_areMapsSound_44 : decode cX4_areMapsSound 44 = .ok (.ireturn, 1) := by decide +kernel
theorem dX4_areMapsSound_45 : decode cX4_areMapsSound 45 = .ok (.iinc 1 1, 3) := by decide +kernel
theorem dX4_areMapsSound_48 : decode cX4_areMapsSound 48 = .ok (.goto (-46), 3) := by decide +kernel
theorem dX4_areMapsSound_51 : decode cX4_areMapsSound 51 = .ok (.iconst 1, 1) := by decide +kernel
theorem dX4_areMapsSound_52 : decode cX4_areMapsSound 52 = .ok (.ireturn, 1) := by decide +kernel
theorem dX4_areViewsSound_0 : decode cX4_areViewsSound 0 = .ok (.iconst 0, 1) := by decide +kernel
theorem dX4_areViewsSound_1 : decode cX4_areViewsSound 1 = .ok (.istore_n 1, 1) := by decide +kernel
theorem dX4_areViewsSound_2 : decode cX4_areViewsSound 2 = .ok (.iload_n 1, 1) := by decide +kernel
theorem dX4_areViewsSound_3 : decode cX4_areViewsSound 3 = .ok (.aload_n 0, 1) := by decide +kernel
theorem dX4_areViewsSound_4 : decode cX4_areViewsSound 4 = .ok (.getfield 17, 3) := by decide +kernel
theorem dX4_areViewsSound_7 : decode cX4_areViewsSound 7 = .ok (.arraylength, 1) := by decide +kernel
theorem dX4_areViewsSound_8 : decode cX4_areViewsSound 8 = .ok (.if_icmp .ge 23, 3) := by decide +kernel
theorem dX4_areViewsSound_11 : decode cX4_areViewsSound 11 = .ok (.aload_n 0, 1) := by decide +kernel
theorem dX4_areViewsSound_12 : decode cX4_areViewsSound 12 = .ok (.getfield 17, 3) := by decide +kernel
theorem dX4_areViewsSound_15 : decode cX4_areViewsSound 15 = .ok (.iload_n 1, 1) := by decide +kernel
theorem dX4_areViewsSound_16 : decode cX4_areViewsSound 16 = .ok (.aaload, 1) := by decide +kernel
theorem dX4_areViewsSound_17 : decode cX4_areViewsSound 17 = .ok (.invokevirtual 263, 3) := by decide +kernel
theorem dX4_areViewsSound_20 : decode cX4_areViewsSound 20 = .ok (.ifCond .ne 5, 3) := by decide +kernel
theorem dX4_areViewsSound_23 : decode cX4_areViewsSound 23 = .ok (.iconst 0, 1) := by decide +kernel
theorem dX4_areViewsSound_24 : decode cX4_areViewsSound 24 = .ok (.ireturn, 1) := by decide +kernel
theorem dX4_areViewsSound_25 : decode cX4_areViewsSound 25 = .ok (.iinc 1 1, 3) := by decide +kernel
theorem dX4_areViewsSound_28 : decode cX4_areViewsSound 28 = .ok (.goto (-26), 3) := by decide +kernel
theorem dX4_areViewsSound_31 : decode cX4_areViewsSound 31 = .ok (.iconst 1, 1) := by decide +kernel
theorem dX4_areViewsSound_32 : decode cX4_areViewsSound 32 = .ok (.ireturn, 1) := by decide +kernel
theorem dX4_areOrdersFree_0 : decode cX4_areOrdersFree 0 = .ok (.iconst 0, 1) := by decide +kernel
theorem dX4_areOrdersFree_1 : decode cX4_areOrdersFree 1 = .ok (.istore_n 1, 1) := by decide +kernel
theorem dX4_areOrdersFree_2 : decode cX4_areOrdersFree 2 = .ok (.iload_n 1, 1) := by decide +kernel
theorem dX4_areOrdersFree_3 : decode cX4_areOrdersFree 3 = .ok (.aload_n 0, 1) := by decide +kernel
theorem dX4_areOrdersFree_4 : decode cX4_areOrdersFree 4 = .ok (.getfield 23, 3) := by decide +kernel
theorem dX4_areOrdersFree_7 : decode cX4_areOrdersFree 7 = .ok (.arraylength, 1) := by decide +kernel
theorem dX4_areOrdersFree_8 : decode cX4_areOrdersFree 8 = .ok (.if_icmp .ge 71, 3) := by decide +kernel
theorem dX4_areOrdersFree_11 : decode cX4_areOrdersFree 11 = .ok (.iload_n 1, 1) := by decide +kernel
theorem dX4_areOrdersFree_12 : decode cX4_areOrdersFree 12 = .ok (.iconst 1, 1) := by decide +kernel
theorem dX4_areOrdersFree_13 : decode cX4_areOrdersFree 13 = .ok (.iadd, 1) := by decide +kernel
theorem dX4_areOrdersFree_14 : decode cX4_areOrdersFree 14 = .ok (.istore_n 2, 1) := by decide +kernel
theorem dX4_areOrdersFree_15 : decode cX4_areOrdersFree 15 = .ok (.iload_n 2, 1) := by decide +kernel
theorem dX4_areOrdersFree_16 : decode cX4_areOrdersFree 16 = .ok (.aload_n 0, 1) := by decide +kernel
theorem dX4_areOrdersFree_17 : decode cX4_areOrdersFree 17 = .ok (.getfield 23, 3) := by decide +kernel
theorem dX4_areOrdersFree_20 : decode cX4_areOrdersFree 20 = .ok (.arraylength, 1) := by decide +kernel
theorem dX4_areOrdersFree_21 : decode cX4_areOrdersFree 21 = .ok (.if_icmp .ge 52, 3) := by decide +kernel
theorem dX4_areOrdersFree_24 : decode cX4_areOrdersFree 24 = .ok (.aload_n 0, 1) := by decide +kernel
theorem dX4_areOrdersFree_25 : decode cX4_areOrdersFree 25 = .ok (.getfield 30, 3) := by decide +kernel
theorem dX4_areOrdersFree_28 : decode cX4_areOrdersFree 28 = .ok (.aload_n 0, 1) := by decide +kernel
theorem dX4_areOrdersFree_29 : decode cX4_areOrdersFree 29 = .ok (.getfield 23, 3) := by decide +kernel
theorem dX4_areOrdersFree_32 : decode cX4_areOrdersFree 32 = .ok (.iload_n 1, 1) := by decide +kernel
theorem dX4_areOrdersFree_33 : decode cX4_areOrdersFree 33 = .ok (.aaload, 1) := by decide +kernel
theorem dX4_areOrdersFree_34 : decode cX4_areOrdersFree 34 = .ok (.aload_n 0, 1) := by decide +kernel
theorem dX4_areOrdersFree_35 : decode cX4_areOrdersFree 35 = .ok (.getfield 23, 3) := by decide +kernel
theorem dX4_areOrdersFree_38 : decode cX4_areOrdersFree 38 = .ok (.iload_n 2, 1) := by decide +kernel
theorem dX4_areOrdersFree_39 : decode cX4_areOrdersFree 39 = .ok (.aaload, 1) := by decide +kernel
theorem dX4_areOrdersFree_40 : decode cX4_areOrdersFree 40 = .ok (.invokevirtual 205, 3) := by decide +kernel
theorem dX4_areOrdersFree_43 : decode cX4_areOrdersFree 43 = .ok (.ifCond .ne 24, 3) := by decide +kernel
theorem dX4_areOrdersFree_46 : decode cX4_areOrdersFree 46 = .ok (.aload_n 0, 1) := by decide +kernel
theorem dX4_areOrdersFree_47 : decode cX4_areOrdersFree 47 = .ok (.aload_n 0, 1) := by decide +kernel
theorem dX4_areOrdersFree_48 : decode cX4_areOrdersFree 48 = .ok (.getfield 23, 3) := by decide +kernel
theorem dX4_areOrdersFree_51 : decode cX4_areOrdersFree 51 = .ok (.iload_n 1, 1) := by decide +kernel
theorem dX4_areOrdersFree_52 : decode cX4_areOrdersFree 52 = .ok (.aaload, 1) := by decide +kernel
theorem dX4_areOrdersFree_53 : decode cX4_areOrdersFree 53 = .ok (.aload_n 0, 1) := by decide +kernel
theorem dX4_areOrdersFree_54 : decode cX4_areOrdersFree 54 = .ok (.getfield 23, 3) := by decide +kernel
theorem dX4_areOrdersFree_57 : decode cX4_areOrdersFree 57 = .ok (.iload_n 2, 1) := by decide +kernel
theorem dX4_areOrdersFree_58 : decode cX4_areOrdersFree 58 = .ok (.aaload, 1) := by decide +kernel
theorem dX4_areOrdersFree_59 : decode cX4_areOrdersFree 59 = .ok (.invokevirtual 266, 3) := by decide +kernel
theorem dX4_areOrdersFree_62 : decode cX4_areOrdersFree 62 = .ok (.ifCond .ne 5, 3) := by decide +kernel
theorem dX4_areOrdersFree_65 : decode cX4_areOrdersFree 65 = .ok (.iconst 0, 1) := by decide +kernel
theorem dX4_areOrdersFree_66 : decode cX4_areOrdersFree 66 = .ok (.ireturn, 1) := by decide +kernel
theorem dX4_areOrdersFree_67 : decode cX4_areOrdersFree 67 = .ok (.iinc 2 1, 3) := by decide +kernel
theorem dX4_areOrdersFree_70 : decode cX4_areOrdersFree 70 = .ok (.goto (-55), 3) := by decide +kernel
theorem dX4_areOrdersFree_73 : decode cX4_areOrdersFree 73 = .ok (.iinc 1 1, 3) := by decide +kernel
theorem dX4_areOrdersFree_76 : decode cX4_areOrdersFree 76 = .ok (.goto (-74), 3) := by decide +kernel
theorem dX4_areOrdersFree_79 : decode cX4_areOrdersFree 79 = .ok (.iconst 1, 1) := by decide +kernel
theorem dX4_areOrdersFree_80 : decode cX4_areOrdersFree 80 = .ok (.ireturn, 1) := by decide +kernel
theorem dX4_isOrderFreeOnAll_0 : decode cX4_isOrderFreeOnAll 0 = .ok (.iconst 0, 1) := by decide +kernel
theorem dX4_isOrderFreeOnAll_1 : decode cX4_isOrderFreeOnAll 1 = .ok (.istore_n 3, 1) := by decide +kernel
theorem dX4_isOrderFreeOnAll_2 : decode cX4_isOrderFreeOnAll 2 = .ok (.iload_n 3, 1) := by decide +kernel
theorem dX4_isOrderFreeOnAll_3 : decode cX4_isOrderFreeOnAll 3 = .ok (.aload_n 0, 1) := by decide +kernel
theorem dX4_isOrderFreeOnAll_4 : decode cX4_isOrderFreeOnAll 4 = .ok (.getfield 11, 3) := by decide +kernel
theorem dX4_isOrderFreeOnAll_7 : decode cX4_isOrderFreeOnAll 7 = .ok (.arraylength, 1) := by decide +kernel
theorem dX4_isOrderFreeOnAll_8 : decode cX4_isOrderFreeOnAll 8 = .ok (.if_icmp .ge 29, 3) := by decide +kernel
theorem dX4_isOrderFreeOnAll_11 : decode cX4_isOrderFreeOnAll 11 = .ok (.aload_n 0, 1) := by decide +kernel
theorem dX4_isOrderFreeOnAll_12 : decode cX4_isOrderFreeOnAll 12 = .ok (.getfield 30, 3) := by decide +kernel
theorem dX4_isOrderFreeOnAll_15 : decode cX4_isOrderFreeOnAll 15 = .ok (.aload_n 1, 1) := by decide +kernel
theorem dX4_isOrderFreeOnAll_16 : decode cX4_isOrderFreeOnAll 16 = .ok (.aload_n 2, 1) := by decide +kernel
theorem dX4_isOrderFreeOnAll_17 : decode cX4_isOrderFreeOnAll 17 = .ok (.aload_n 0, 1) := by decide +kernel
theorem dX4_isOrderFreeOnAll_18 : decode cX4_isOrderFreeOnAll 18 = .ok (.getfield 11, 3) := by decide +kernel
theorem dX4_isOrderFreeOnAll_21 : decode cX4_isOrderFreeOnAll 21 = .ok (.iload_n 3, 1) := by decide +kernel
theorem dX4_isOrderFreeOnAll_22 : decode cX4_isOrderFreeOnAll 22 = .ok (.aaload, 1) := by decide +kernel
theorem dX4_isOrderFreeOnAll_23 : decode cX4_isOrderFreeOnAll 23 = .ok (.invokevirtual 270, 3) := by decide +kernel
theorem dX4_isOrderFreeOnAll_26 : decode cX4_isOrderFreeOnAll 26 = .ok (.ifCond .ne 5, 3) := by decide +kernel
theorem dX4_isOrderFreeOnAll_29 : decode cX4_isOrderFreeOnAll 29 = .ok (.iconst 0, 1) := by decide +kernel
theorem dX4_isOrderFreeOnAll_30 : decode cX4_isOrderFreeOnAll 30 = .ok (.ireturn, 1) := by decide +kernel
theorem dX4_isOrderFreeOnAll_31 : decode cX4_isOrderFreeOnAll 31 = .ok (.iinc 3 1, 3) := by decide +kernel
theorem dX4_isOrderFreeOnAll_34 : decode cX4_isOrderFreeOnAll 34 = .ok (.goto (-32), 3) := by decide +kernel
theorem dX4_isOrderFreeOnAll_37 : decode cX4_isOrderFreeOnAll 37 = .ok (.iconst 1, 1) := by decide +kernel
theorem dX4_isOrderFreeOnAll_38 : decode cX4_isOrderFreeOnAll 38 = .ok (.ireturn, 1) := by decide +kernel
theorem dX4_areOppositesSound_0 : decode cX4_areOppositesSound 0 = .ok (.iconst 0, 1) := by decide +kernel
theorem dX4_areOppositesSound_1 : decode cX4_areOppositesSound 1 = .ok (.istore_n 1, 1) := by decide +kernel
theorem dX4_areOppositesSound_2 : decode cX4_areOppositesSound 2 = .ok (.iload_n 1, 1) := by decide +kernel
theorem dX4_areOppositesSound_3 : decode cX4_areOppositesSound 3 = .ok (.aload_n 0, 1) := by decide +kernel
theorem dX4_areOppositesSound_4 : decode cX4_areOppositesSound 4 = .ok (.getfield 23, 3) := by decide +kernel
theorem dX4_areOppositesSound_7 : decode cX4_areOppositesSound 7 = .ok (.arraylength, 1) := by decide +kernel
theorem dX4_areOppositesSound_8 : decode cX4_areOppositesSound 8 = .ok (.if_icmp .ge 50, 3) := by decide +kernel
theorem dX4_areOppositesSound_11 : decode cX4_areOppositesSound 11 = .ok (.iconst 0, 1) := by decide +kernel
theorem dX4_areOppositesSound_12 : decode cX4_areOppositesSound 12 = .ok (.istore_n 2, 1) := by decide +kernel
theorem dX4_areOppositesSound_13 : decode cX4_areOppositesSound 13 = .ok (.iload_n 2, 1) := by decide +kernel
theorem dX4_areOppositesSound_14 : decode cX4_areOppositesSound 14 = .ok (.aload_n 0, 1) := by decide +kernel
theorem dX4_areOppositesSound_15 : decode cX4_areOppositesSound 15 = .ok (.getfield 11, 3) := by decide +kernel
theorem dX4_areOppositesSound_18 : decode cX4_areOppositesSound 18 = .ok (.arraylength, 1) := by decide +kernel
theorem dX4_areOppositesSound_19 : decode cX4_areOppositesSound 19 = .ok (.if_icmp .ge 33, 3) := by decide +kernel
theorem dX4_areOppositesSound_22 : decode cX4_areOppositesSound 22 = .ok (.aload_n 0, 1) := by decide +kernel
theorem dX4_areOppositesSound_23 : decode cX4_areOppositesSound 23 = .ok (.getfield 30, 3) := by decide +kernel
theorem dX4_areOppositesSound_26 : decode cX4_areOppositesSound 26 = .ok (.aload_n 0, 1) := by decide +kernel
theorem dX4_areOppositesSound_27 : decode cX4_areOppositesSound 27 = .ok (.getfield 23, 3) := by decide +kernel
theorem dX4_areOppositesSound_30 : decode cX4_areOppositesSound 30 = .ok (.iload_n 1, 1) := by decide +kernel
theorem dX4_areOppositesSound_31 : decode cX4_areOppositesSound 31 = .ok (.aaload, 1) := by decide +kernel
theorem dX4_areOppositesSound_32 : decode cX4_areOppositesSound 32 = .ok (.aload_n 0, 1) := by decide +kernel
theorem dX4_areOppositesSound_33 : decode cX4_areOppositesSound 33 = .ok (.getfield 11, 3) := by decide +kernel
theorem dX4_areOppositesSound_36 : decode cX4_areOppositesSound 36 = .ok (.iload_n 2, 1) := by decide +kernel
theorem dX4_areOppositesSound_37 : decode cX4_areOppositesSound 37 = .ok (.aaload, 1) := by decide +kernel
theorem dX4_areOppositesSound_38 : decode cX4_areOppositesSound 38 = .ok (.invokevirtual 274, 3) := by decide +kernel
theorem dX4_areOppositesSound_41 : decode cX4_areOppositesSound 41 = .ok (.ifCond .ne 5, 3) := by decide +kernel
theorem dX4_areOppositesSound_44 : decode cX4_areOppositesSound 44 = .ok (.iconst 0, 1) := by decide +kernel
theorem dX4_areOppositesSound_45 : decode cX4_areOppositesSound 45 = .ok (.ireturn, 1) := by decide +kernel
theorem dX4_areOppositesSound_46 : decode cX4_areOppositesSound 46 = .ok (.iinc 2 1, 3) := by decide +kernel
theorem dX4_areOppositesSound_49 : decode cX4_areOppositesSound 49 = .ok (.goto (-36), 3) := by decide +kernel
theorem dX4_areOppositesSound_52 : decode cX4_areOppositesSound 52 = .ok (.iinc 1 1, 3) := by decide +kernel
theorem dX4_areOppositesSound_55 : decode cX4_areOppositesSound 55 = .ok (.goto (-53), 3) := by decide +kernel
theorem dX4_areOppositesSound_58 : decode cX4_areOppositesSound 58 = .ok (.iconst 1, 1) := by decide +kernel
theorem dX4_areOppositesSound_59 : decode cX4_areOppositesSound 59 = .ok (.ireturn, 1) := by decide +kernel
theorem dX4_areMixesSound_0 : decode cX4_areMixesSound 0 = .ok (.iconst 0, 1) := by decide +kernel
theorem dX4_areMixesSound_1 : decode cX4_areMixesSound 1 = .ok (.istore_n 1, 1) := by decide +kernel
theorem dX4_areMixesSound_2 : decode cX4_areMixesSound 2 = .ok (.iload_n 1, 1) := by decide +kernel
theorem dX4_areMixesSound_3 : decode cX4_areMixesSound 3 = .ok (.aload_n 0, 1) := by decide +kernel
theorem dX4_areMixesSound_4 : decode cX4_areMixesSound 4 = .ok (.getfield 11, 3) := by decide +kernel
theorem dX4_areMixesSound_7 : decode cX4_areMixesSound 7 = .ok (.arraylength, 1) := by decide +kernel
theorem dX4_areMixesSound_8 : decode cX4_areMixesSound 8 = .ok (.if_icmp .ge 102, 3) := by decide +kernel
theorem dX4_areMixesSound_11 : decode cX4_areMixesSound 11 = .ok (.iload_n 1, 1) := by decide +kernel
theorem dX4_areMixesSound_12 : decode cX4_areMixesSound 12 = .ok (.iconst 1, 1) := by decide +kernel
theorem dX4_areMixesSound_13 : decode cX4_areMixesSound 13 = .ok (.iadd, 1) := by decide +kernel
theorem dX4_areMixesSound_14 : decode cX4_areMixesSound 14 = .ok (.istore_n 2, 1) := by decide +kernel
theorem dX4_areMixesSound_15 : decode cX4_areMixesSound 15 = .ok (.iload_n 2, 1) := by decide +kernel
theorem dX4_areMixesSound_16 : decode cX4_areMixesSound 16 = .ok (.aload_n 0, 1) := by decide +kernel
theorem dX4_areMixesSound_17 : decode cX4_areMixesSound 17 = .ok (.getfield 11, 3) := by decide +kernel
theorem dX4_areMixesSound_20 : decode cX4_areMixesSound 20 = .ok (.arraylength, 1) := by decide +kernel
theorem dX4_areMixesSound_21 : decode cX4_areMixesSound 21 = .ok (.if_icmp .ge 83, 3) := by decide +kernel
theorem dX4_areMixesSound_24 : decode cX4_areMixesSound 24 = .ok (.aload_n 0, 1) := by decide +kernel
theorem dX4_areMixesSound_25 : decode cX4_areMixesSound 25 = .ok (.getfield 30, 3) := by decide +kernel
theorem dX4_areMixesSound_28 : decode cX4_areMixesSound 28 = .ok (.aload_n 0, 1) := by decide +kernel
theorem dX4_areMixesSound_29 : decode cX4_areMixesSound 29 = .ok (.getfield 11, 3) := by decide +kernel
theorem dX4_areMixesSound_32 : decode cX4_areMixesSound 32 = .ok (.iload_n 1, 1) := by decide +kernel
theorem dX4_areMixesSound_33 : decode cX4_areMixesSound 33 = .ok (.aaload, 1) := by decide +kernel
theorem dX4_areMixesSound_34 : decode cX4_areMixesSound 34 = .ok (.aload_n 0, 1) := by decide +kernel
theorem dX4_areMixesSound_35 : decode cX4_areMixesSound 35 = .ok (.getfield 11, 3) := by decide +kernel
theorem dX4_areMixesSound_38 : decode cX4_areMixesSound 38 = .ok (.iload_n 2, 1) := by decide +kernel
theorem dX4_areMixesSound_39 : decode cX4_areMixesSound 39 = .ok (.aaload, 1) := by decide +kernel
theorem dX4_areMixesSound_40 : decode cX4_areMixesSound 40 = .ok (.bipush 115, 2) := by decide +kernel
theorem dX4_areMixesSound_42 : decode cX4_areMixesSound 42 = .ok (.invokevirtual 278, 3) := by decide +kernel
theorem dX4_areMixesSound_45 : decode cX4_areMixesSound 45 = .ok (.ifCond .eq 51, 3) := by decide +kernel
theorem dX4_areMixesSound_48 : decode cX4_areMixesSound 48 = .ok (.aload_n 0, 1) := by decide +kernel
theorem dX4_areMixesSound_49 : decode cX4_areMixesSound 49 = .ok (.getfield 30, 3) := by decide +kernel
theorem dX4_areMixesSound_52 : decode cX4_areMixesSound 52 = .ok (.aload_n 0, 1) := by decide +kernel
theorem dX4_areMixesSound_53 : decode cX4_areMixesSound 53 = .ok (.getfield 11, 3) := by decide +kernel
theorem dX4_areMixesSound_56 : decode cX4_areMixesSound 56 = .ok (.iload_n 1, 1) := by decide +kernel
theorem dX4_areMixesSound_57 : decode cX4_areMixesSound 57 = .ok (.aaload, 1) := by decide +kernel
theorem dX4_areMixesSound_58 : decode cX4_areMixesSound 58 = .ok (.aload_n 0, 1) := by decide +kernel
theorem dX4_areMixesSound_59 : decode cX4_areMixesSound 59 = .ok (.getfield 11, 3) := by decide +kernel
theorem dX4_areMixesSound_62 : decode cX4_areMixesSound 62 = .ok (.iload_n 2, 1) := by decide +kernel
theorem dX4_areMixesSound_63 : decode cX4_areMixesSound 63 = .ok (.aaload, 1) := by decide +kernel
theorem dX4_areMixesSound_64 : decode cX4_areMixesSound 64 = .ok (.bipush 103, 2) := by decide +kernel
theorem dX4_areMixesSound_66 : decode cX4_areMixesSound 66 = .ok (.invokevirtual 278, 3) := by decide +kernel
theorem dX4_areMixesSound_69 : decode cX4_areMixesSound 69 = .ok (.ifCond .eq 27, 3) := by decide +kernel
theorem dX4_areMixesSound_72 : decode cX4_areMixesSound 72 = .ok (.aload_n 0, 1) := by decide +kernel
theorem dX4_areMixesSound_73 : decode cX4_areMixesSound 73 = .ok (.getfield 30, 3) := by decide +kernel
theorem dX4_areMixesSound_76 : decode cX4_areMixesSound 76 = .ok (.aload_n 0, 1) := by decide +kernel
theorem dX4_areMixesSound_77 : decode cX4_areMixesSound 77 = .ok (.getfield 11, 3) := by decide +kernel
theorem dX4_areMixesSound_80 : decode cX4_areMixesSound 80 = .ok (.iload_n 1, 1) := by decide +kernel
theorem dX4_areMixesSound_81 : decode cX4_areMixesSound 81 = .ok (.aaload, 1) := by decide +kernel
theorem dX4_areMixesSound_82 : decode cX4_areMixesSound 82 = .ok (.aload_n 0, 1) := by decide +kernel
theorem dX4_areMixesSound_83 : decode cX4_areMixesSound 83 = .ok (.getfield 11, 3) := by decide +kernel
theorem dX4_areMixesSound_86 : decode cX4_areMixesSound 86 = .ok (.iload_n 2, 1) := by decide +kernel
theorem dX4_areMixesSound_87 : decode cX4_areMixesSound 87 = .ok (.aaload, 1) := by decide +kernel
theorem dX4_areMixesSound_88 : decode cX4_areMixesSound 88 = .ok (.bipush 108, 2) := by decide +kernel
theorem dX4_areMixesSound_90 : decode cX4_areMixesSound 90 = .ok (.invokevirtual 278, 3) := by decide +kernel
theorem dX4_areMixesSound_93 : decode cX4_areMixesSound 93 = .ok (.ifCond .ne 5, 3) := by decide +kernel
theorem dX4_areMixesSound_96 : decode cX4_areMixesSound 96 = .ok (.iconst 0, 1) := by decide +kernel
theorem dX4_areMixesSound_97 : decode cX4_areMixesSound 97 = .ok (.ireturn, 1) := by decide +kernel
theorem dX4_areMixesSound_98 : decode cX4_areMixesSound 98 = .ok (.iinc 2 1, 3) := by decide +kernel
theorem dX4_areMixesSound_101 : decode cX4_areMixesSound 101 = .ok (.goto (-86), 3) := by decide +kernel
theorem dX4_areMixesSound_104 : decode cX4_areMixesSound 104 = .ok (.iinc 1 1, 3) := by decide +kernel
theorem dX4_areMixesSound_107 : decode cX4_areMixesSound 107 = .ok (.goto (-105), 3) := by decide +kernel
theorem dX4_areMixesSound_110 : decode cX4_areMixesSound 110 = .ok (.iconst 1, 1) := by decide +kernel
theorem dX4_areMixesSound_111 : decode cX4_areMixesSound 111 = .ok (.ireturn, 1) := by decide +kernel
theorem dX4_mapAt_0 : decode cX4_mapAt 0 = .ok (.iload_n 1, 1) := by decide +kernel
theorem dX4_mapAt_1 : decode cX4_mapAt 1 = .ok (.ifCond .lt 12, 3) := by decide +kernel
theorem dX4_mapAt_4 : decode cX4_mapAt 4 = .ok (.iload_n 1, 1) := by decide +kernel
theorem dX4_mapAt_5 : decode cX4_mapAt 5 = .ok (.aload_n 0, 1) := by decide +kernel
theorem dX4_mapAt_6 : decode cX4_mapAt 6 = .ok (.getfield 11, 3) := by decide +kernel
theorem dX4_mapAt_9 : decode cX4_mapAt 9 = .ok (.arraylength, 1) := by decide +kernel
theorem dX4_mapAt_10 : decode cX4_mapAt 10 = .ok (.if_icmp .lt 14, 3) := by decide +kernel
theorem dX4_mapAt_13 : decode cX4_mapAt 13 = .ok (.new 109, 3) := by decide +kernel
theorem dX4_mapAt_16 : decode cX4_mapAt 16 = .ok (.dup, 1) := by decide +kernel
theorem dX4_mapAt_17 : decode cX4_mapAt 17 = .ok (.ldc_w 282, 3) := by decide +kernel
theorem dX4_mapAt_20 : decode cX4_mapAt 20 = .ok (.invokespecial 113, 3) := by decide +kernel
theorem dX4_mapAt_23 : decode cX4_mapAt 23 = .ok (.athrow, 1) := by decide +kernel
theorem dX4_mapAt_24 : decode cX4_mapAt 24 = .ok (.aload_n 0, 1) := by decide +kernel
theorem dX4_mapAt_25 : decode cX4_mapAt 25 = .ok (.getfield 11, 3) := by decide +kernel
theorem dX4_mapAt_28 : decode cX4_mapAt 28 = .ok (.iload_n 1, 1) := by decide +kernel
theorem dX4_mapAt_29 : decode cX4_mapAt 29 = .ok (.aaload, 1) := by decide +kernel
theorem dX4_mapAt_30 : decode cX4_mapAt 30 = .ok (.areturn, 1) := by decide +kernel
theorem dX4_viewAt_0 : decode cX4_viewAt 0 = .ok (.iload_n 1, 1) := by decide +kernel
theorem dX4_viewAt_1 : decode cX4_viewAt 1 = .ok (.ifCond .lt 12, 3) := by decide +kernel
theorem dX4_viewAt_4 : decode cX4_viewAt 4 = .ok (.iload_n 1, 1) := by decide +kernel
theorem dX4_viewAt_5 : decode cX4_viewAt 5 = .ok (.aload_n 0, 1) := by decide +kernel
theorem dX4_viewAt_6 : decode cX4_viewAt 6 = .ok (.getfield 17, 3) := by decide +kernel
theorem dX4_viewAt_9 : decode cX4_viewAt 9 = .ok (.arraylength, 1) := by decide +kernel
theorem dX4_viewAt_10 : decode cX4_viewAt 10 = .ok (.if_icmp .lt 14, 3) := by decide +kernel
theorem dX4_viewAt_13 : decode cX4_viewAt 13 = .ok (.new 109, 3) := by decide +kernel
theorem dX4_viewAt_16 : decode cX4_viewAt 16 = .ok (.dup, 1) := by decide +kernel
theorem dX4_viewAt_17 : decode cX4_viewAt 17 = .ok (.ldc_w 284, 3) := by decide +kernel
theorem dX4_viewAt_20 : decode cX4_viewAt 20 = .ok (.invokespecial 113, 3) := by decide +kernel
theorem dX4_viewAt_23 : decode cX4_viewAt 23 = .ok (.athrow, 1) := by decide +kernel
theorem dX4_viewAt_24 : decode cX4_viewAt 24 = .ok (.aload_n 0, 1) := by decide +kernel
theorem dX4_viewAt_25 : decode cX4_viewAt 25 = .ok (.getfield 17, 3) := by decide +kernel
theorem dX4_viewAt_28 : decode cX4_viewAt 28 = .ok (.iload_n 1, 1) := by decide +kernel
theorem dX4_viewAt_29 : decode cX4_viewAt 29 = .ok (.aaload, 1) := by decide +kernel
theorem dX4_viewAt_30 : decode cX4_viewAt 30 = .ok (.areturn, 1) := by decide +kernel
theorem dX4_historyAt_0 : decode cX4_historyAt 0 = .ok (.iload_n 1, 1) := by decide +kernel
theorem dX4_historyAt_1 : decode cX4_historyAt 1 = .ok (.ifCond .lt 12, 3) := by decide +kernel
theorem dX4_historyAt_4 : decode cX4_historyAt 4 = .ok (.iload_n 1, 1) := by decide +kernel
theorem dX4_historyAt_5 : decode cX4_historyAt 5 = .ok (.aload_n 0, 1) := by decide +kernel
theorem dX4_historyAt_6 : decode cX4_historyAt 6 = .ok (.getfield 23, 3) := by decide +kernel
theorem dX4_historyAt_9 : decode cX4_historyAt 9 = .ok (.arraylength, 1) := by decide +kernel
theorem dX4_historyAt_10 : decode cX4_historyAt 10 = .ok (.if_icmp .lt 14, 3) := by decide +kernel
theorem dX4_historyAt_13 : decode cX4_historyAt 13 = .ok (.new 109, 3) := by decide +kernel
theorem dX4_historyAt_16 : decode cX4_historyAt 16 = .ok (.dup, 1) := by decide +kernel
theorem dX4_historyAt_17 : decode cX4_historyAt 17 = .ok (.ldc_w 286, 3) := by decide +kernel
theorem dX4_historyAt_20 : decode cX4_historyAt 20 = .ok (.invokespecial 113, 3) := by decide +kernel
theorem dX4_historyAt_23 : decode cX4_historyAt 23 = .ok (.athrow, 1) := by decide +kernel
theorem dX4_historyAt_24 : decode cX4_historyAt 24 = .ok (.aload_n 0, 1) := by decide +kernel
theorem dX4_historyAt_25 : decode cX4_historyAt 25 = .ok (.getfield 23, 3) := by decide +kernel
theorem dX4_historyAt_28 : decode cX4_historyAt 28 = .ok (.iload_n 1, 1) := by decide +kernel
theorem dX4_historyAt_29 : decode cX4_historyAt 29 = .ok (.aaload, 1) := by decide +kernel
theorem dX4_historyAt_30 : decode cX4_historyAt 30 = .ok (.areturn, 1) := by decide +kernel
theorem dX4_refuseClosed_0 : decode cX4_refuseClosed 0 = .ok (.aload_n 0, 1) := by decide +kernel
theorem dX4_refuseClosed_1 : decode cX4_refuseClosed 1 = .ok (.getfield 288, 3) := by decide +kernel
theorem dX4_refuseClosed_4 : decode cX4_refuseClosed 4 = .ok (.ifnonnull 14, 3) := by decide +kernel
theorem dX4_refuseClosed_7 : decode cX4_refuseClosed 7 = .ok (.new 57, 3) := by decide +kernel
theorem dX4_refuseClosed_10 : decode cX4_refuseClosed 10 = .ok (.dup, 1) := by decide +kernel
theorem dX4_refuseClosed_11 : decode cX4_refuseClosed 11 = .ok (.ldc_w 292, 3) := by decide +kernel
theorem dX4_refuseClosed_14 : decode cX4_refuseClosed 14 = .ok (.invokespecial 61, 3) := by decide +kernel
theorem dX4_refuseClosed_17 : decode cX4_refuseClosed 17 = .ok (.athrow, 1) := by decide +kernel
theorem dX4_refuseClosed_18 : decode cX4_refuseClosed 18 = .ok (.return_, 1) := by decide +kernel
theorem dX4_sourceOf_0 : decode cX4_sourceOf 0 = .ok (.aload_n 0, 1) := by decide +kernel
theorem dX4_sourceOf_1 : decode cX4_sourceOf 1 = .ok (.invokestatic 134, 3) := by decide +kernel
theorem dX4_sourceOf_4 : decode cX4_sourceOf 4 = .ok (.aload_n 0, 1) := by decide +kernel
theorem dX4_sourceOf_5 : decode cX4_sourceOf 5 = .ok (.getfield 288, 3) := by decide +kernel
theorem dX4_sourceOf_8 : decode cX4_sourceOf 8 = .ok (.areturn, 1) := by decide +kernel
theorem dX4_endPlace_0 : decode cX4_endPlace 0 = .ok (.iload_n 0, 1) := by decide +kernel
theorem dX4_endPlace_1 : decode cX4_endPlace 1 = .ok (.iload_n 1, 1) := by decide +kernel
theorem dX4_endPlace_2 : decode cX4_endPlace 2 = .ok (.if_icmp .lt 14, 3) := by decide +kernel
theorem dX4_endPlace_5 : decode cX4_endPlace 5 = .ok (.new 57, 3) := by decide +kernel
theorem dX4_endPlace_8 : decode cX4_endPlace 8 = .ok (.dup, 1) := by decide +kernel
theorem dX4_endPlace_9 : decode cX4_endPlace 9 = .ok (.ldc_w 294, 3) := by decide +kernel
theorem dX4_endPlace_12 : decode cX4_endPlace 12 = .ok (.invokespecial 61, 3) := by decide +kernel
theorem dX4_endPlace_15 : decode cX4_endPlace 15 = .ok (.athrow, 1) := by decide +kernel
theorem dX4_endPlace_16 : decode cX4_endPlace 16 = .ok (.iload_n 2, 1) := by decide +kernel
theorem dX4_endPlace_17 : decode cX4_endPlace 17 = .ok (.ifCond .eq 9, 3) := by decide +kernel
theorem dX4_endPlace_20 : decode cX4_endPlace 20 = .ok (.iload_n 1, 1) := by decide +kernel
theorem dX4_endPlace_21 : decode cX4_endPlace 21 = .ok (.iconst 1, 1) := by decide +kernel
theorem dX4_endPlace_22 : decode cX4_endPlace 22 = .ok (.isub, 1) := by decide +kernel
theorem dX4_endPlace_23 : decode cX4_endPlace 23 = .ok (.goto 4, 3) := by decide +kernel
theorem dX4_endPlace_26 : decode cX4_endPlace 26 = .ok (.iload_n 0, 1) := by decide +kernel
theorem dX4_endPlace_27 : decode cX4_endPlace 27 = .ok (.ireturn, 1) := by decide +kernel
theorem dX4_putWithin_0 : decode cX4_putWithin 0 = .ok (.aload_n 0, 1) := by decide +kernel
theorem dX4_putWithin_1 : decode cX4_putWithin 1 = .ok (.getfield 49, 3) := by decide +kernel
theorem dX4_putWithin_4 : decode cX4_putWithin 4 = .ok (.bipush 60, 2) := by decide +kernel
theorem dX4_putWithin_6 : decode cX4_putWithin 6 = .ok (.if_icmp .lt 22, 3) := by decide +kernel
theorem dX4_putWithin_9 : decode cX4_putWithin 9 = .ok (.aload_n 0, 1) := by decide +kernel
theorem dX4_putWithin_10 : decode cX4_putWithin 10 = .ok (.iload_n 1, 1) := by decide +kernel
theorem dX4_putWithin_11 : decode cX4_putWithin 11 = .ok (.invokevirtual 53, 3) := by decide +kernel
theorem dX4_putWithin_14 : decode cX4_putWithin 14 = .ok (.ifCond .ge 14, 3) := by decide +kernel
theorem dX4_putWithin_17 : decode cX4_putWithin 17 = .ok (.new 146, 3) := by decide +kernel
theorem dX4_putWithin_20 : decode cX4_putWithin 20 = .ok (.dup, 1) := by decide +kernel
theorem dX4_putWithin_21 : decode cX4_putWithin 21 = .ok (.ldc_w 296, 3) := by decide +kernel
theorem dX4_putWithin_24 : decode cX4_putWithin 24 = .ok (.invokespecial 150, 3) := by decide +kernel
theorem dX4_putWithin_27 : decode cX4_putWithin 27 = .ok (.athrow, 1) := by decide +kernel
theorem dX4_putWithin_28 : decode cX4_putWithin 28 = .ok (.aload_n 0, 1) := by decide +kernel
theorem dX4_putWithin_29 : decode cX4_putWithin 29 = .ok (.iload_n 1, 1) := by decide +kernel
theorem dX4_putWithin_30 : decode cX4_putWithin 30 = .ok (.iload_n 2, 1) := by decide +kernel
theorem dX4_putWithin_31 : decode cX4_putWithin 31 = .ok (.invokevirtual 298, 3) := by decide +kernel
theorem dX4_putWithin_34 : decode cX4_putWithin 34 = .ok (.pop, 1) := by decide +kernel
theorem dX4_putWithin_35 : decode cX4_putWithin 35 = .ok (.return_, 1) := by decide +kernel
theorem dX4_pollAt_0 : decode cX4_pollAt 0 = .ok (.aload_n 1, 1) := by decide +kernel
theorem dX4_pollAt_1 : decode cX4_pollAt 1 = .ok (.getfield 86, 3) := by decide +kernel
theorem dX4_pollAt_4 : decode cX4_pollAt 4 = .ok (.iload_n 2, 1) := by decide +kernel
theorem dX4_pollAt_5 : decode cX4_pollAt 5 = .ok (.iaload, 1) := by decide +kernel
theorem dX4_pollAt_6 : decode cX4_pollAt 6 = .ok (.istore_n 3, 1) := by decide +kernel
theorem dX4_pollAt_7 : decode cX4_pollAt 7 = .ok (.aload_n 0, 1) := by decide +kernel
theorem dX4_pollAt_8 : decode cX4_pollAt 8 = .ok (.aload_n 1, 1) := by decide +kernel
theorem dX4_pollAt_9 : decode cX4_pollAt 9 = .ok (.getfield 64, 3) := by decide +kernel
theorem dX4_pollAt_12 : decode cX4_pollAt 12 = .ok (.iload_n 2, 1) := by decide +kernel
theorem dX4_pollAt_13 : decode cX4_pollAt 13 = .ok (.iaload, 1) := by decide +kernel
theorem dX4_pollAt_14 : decode cX4_pollAt 14 = .ok (.putfield 103, 3) := by decide +kernel
theorem dX4_pollAt_17 : decode cX4_pollAt 17 = .ok (.aload_n 0, 1) := by decide +kernel
theorem dX4_pollAt_18 : decode cX4_pollAt 18 = .ok (.iconst 1, 1) := by decide +kernel
theorem dX4_pollAt_19 : decode cX4_pollAt 19 = .ok (.putfield 97, 3) := by decide +kernel
theorem dX4_pollAt_22 : decode cX4_pollAt 22 = .ok (.aload_n 1, 1) := by decide +kernel
theorem dX4_pollAt_23 : decode cX4_pollAt 23 = .ok (.iload_n 2, 1) := by decide +kernel
theorem dX4_pollAt_24 : decode cX4_pollAt 24 = .ok (.iload_n 2, 1) := by decide +kernel
theorem dX4_pollAt_25 : decode cX4_pollAt 25 = .ok (.iconst 1, 1) := by decide +kernel
theorem dX4_pollAt_26 : decode cX4_pollAt 26 = .ok (.iadd, 1) := by decide +kernel
theorem dX4_pollAt_27 : decode cX4_pollAt 27 = .ok (.invokevirtual 170, 3) := by decide +kernel
theorem dX4_pollAt_30 : decode cX4_pollAt 30 = .ok (.iload_n 3, 1) := by decide +kernel
theorem dX4_pollAt_31 : decode cX4_pollAt 31 = .ok (.ireturn, 1) := by decide +kernel
theorem dX4_playByTurns_0 : decode cX4_playByTurns 0 = .ok (.iconst 0, 1) := by decide +kernel
theorem dX4_playByTurns_1 : decode cX4_playByTurns 1 = .ok (.istore 4, 2) := by decide +kernel
theorem dX4_playByTurns_3 : decode cX4_playByTurns 3 = .ok (.iconst 0, 1) := by decide +kernel
theorem dX4_playByTurns_4 : decode cX4_playByTurns 4 = .ok (.istore 5, 2) := by decide +kernel
theorem dX4_playByTurns_6 : decode cX4_playByTurns 6 = .ok (.aload_n 0, 1) := by decide +kernel
theorem dX4_playByTurns_7 : decode cX4_playByTurns 7 = .ok (.getfield 183, 3) := by decide +kernel
theorem dX4_playByTurns_10 : decode cX4_playByTurns 10 = .ok (.aload_n 1, 1) := by decide +kernel
theorem dX4_playByTurns_11 : decode cX4_playByTurns 11 = .ok (.getfield 183, 3) := by decide +kernel
theorem dX4_playByTurns_14 : decode cX4_playByTurns 14 = .ok (.iadd, 1) := by decide +kernel
theorem dX4_playByTurns_15 : decode cX4_playByTurns 15 = .ok (.istore 6, 2) := by decide +kernel
theorem dX4_playByTurns_17 : decode cX4_playByTurns 17 = .ok (.iconst 0, 1) := by decide +kernel
theorem dX4_playByTurns_18 : decode cX4_playByTurns 18 = .ok (.istore 7, 2) := by decide +kernel
theorem dX4_playByTurns_20 : decode cX4_playByTurns 20 = .ok (.iload 7, 2) := by decide +kernel
theorem dX4_playByTurns_22 : decode cX4_playByTurns 22 = .ok (.iload 6, 2) := by decide +kernel
theorem dX4_playByTurns_24 : decode cX4_playByTurns 24 = .ok (.if_icmp .ge 84, 3) := by decide +kernel
theorem dX4_playByTurns_27 : decode cX4_playByTurns 27 = .ok (.iload_n 2, 1) := by decide +kernel
theorem dX4_playByTurns_28 : decode cX4_playByTurns 28 = .ok (.iload 7, 2) := by decide +kernel
theorem dX4_playByTurns_30 : decode cX4_playByTurns 30 = .ok (.bipush 31, 2) := by decide +kernel
theorem dX4_playByTurns_32 : decode cX4_playByTurns 32 = .ok (.iand, 1) := by decide +kernel
theorem dX4_playByTurns_33 : decode cX4_playByTurns 33 = .ok (.iushr, 1) := by decide +kernel
theorem dX4_playByTurns_34 : decode cX4_playByTurns 34 = .ok (.iconst 1, 1) := by decide +kernel
theorem dX4_playByTurns_35 : decode cX4_playByTurns 35 = .ok (.iand, 1) := by decide +kernel
theorem dX4_playByTurns_36 : decode cX4_playByTurns 36 = .ok (.iconst 1, 1) := by decide +kernel
theorem dX4_playByTurns_37 : decode cX4_playByTurns 37 = .ok (.if_icmp .ne 7, 3) := by decide +kernel
theorem dX4_playByTurns_40 : decode cX4_playByTurns 40 = .ok (.iconst 1, 1) := by decide +kernel
theorem dX4_playByTurns_41 : decode cX4_playByTurns 41 = .ok (.goto 4, 3) := by decide +kernel
theorem dX4_playByTurns_44 : decode cX4_playByTurns 44 = .ok (.iconst 0, 1) := by decide +kernel
theorem dX4_playByTurns_45 : decode cX4_playByTurns 45 = .ok (.istore 8, 2) := by decide +kernel
theorem dX4_playByTurns_47 : decode cX4_playByTurns 47 = .ok (.iload 5, 2) := by decide +kernel
theorem dX4_playByTurns_49 : decode cX4_playByTurns 49 = .ok (.aload_n 1, 1) := by decide +kernel
theorem dX4_playByTurns_50 : decode cX4_playByTurns 50 = .ok (.getfield 183, 3) := by decide +kernel
theorem dX4_playByTurns_53 : decode cX4_playByTurns 53 = .ok (.if_icmp .ge 30, 3) := by decide +kernel
theorem dX4_playByTurns_56 : decode cX4_playByTurns 56 = .ok (.iload 8, 2) := by decide +kernel
theorem dX4_playByTurns_58 : decode cX4_playByTurns 58 = .ok (.ifCond .ne 12, 3) := by decide +kernel
theorem dX4_playByTurns_61 : decode cX4_playByTurns 61 = .ok (.iload 4, 2) := by decide +kernel
theorem dX4_playByTurns_63 : decode cX4_playByTurns 63 = .ok (.aload_n 0, 1) := by decide +kernel
theorem dX4_playByTurns_64 : decode cX4_playByTurns 64 = .ok (.getfield 183, 3) := by decide +kernel
theorem dX4_playByTurns_67 : decode cX4_playByTurns 67 = .ok (.if_icmp .lt 16, 3) := by decide +kernel
theorem dX4_playByTurns_70 : decode cX4_playByTurns 70 = .ok (.aload_n 1, 1) := by decide +kernel
theorem dX4_playByTurns_71 : decode cX4_playByTurns 71 = .ok (.iload 5, 2) := by decide +kernel
theorem dX4_playByTurns_73 : decode cX4_playByTurns 73 = .ok (.aload_n 3, 1) := by decide +kernel
theorem dX4_playByTurns_74 : decode cX4_playByTurns 74 = .ok (.invokevirtual 302, 3) := by decide +kernel
theorem dX4_playByTurns_77 : decode cX4_playByTurns 77 = .ok (.iinc 5 1, 3) := by decide +kernel
theorem dX4_playByTurns_80 : decode cX4_playByTurns 80 = .ok (.goto 22, 3) := by decide +kernel
theorem dX4_playByTurns_83 : decode cX4_playByTurns 83 = .ok (.iload 4, 2) := by decide +kernel
theorem dX4_playByTurns_85 : decode cX4_playByTurns 85 = .ok (.aload_n 0, 1) := by decide +kernel
theorem dX4_playByTurns_86 : decode cX4_playByTurns 86 = .ok (.getfield 183, 3) := by decide +kernel
theorem dX4_playByTurns_89 : decode cX4_playByTurns 89 = .ok (.if_icmp .ge 13, 3) := by decide +kernel
theorem dX4_playByTurns_92 : decode cX4_playByTurns 92 = .ok (.aload_n 0, 1) := by decide +kernel
theorem dX4_playByTurns_93 : decode cX4_playByTurns 93 = .ok (.iload 4, 2) := by decide +kernel
theorem dX4_playByTurns_95 : decode cX4_playByTurns 95 = .ok (.aload_n 3, 1) := by decide +kernel
theorem dX4_playByTurns_96 : decode cX4_playByTurns 96 = .ok (.invokevirtual 302, 3) := by decide +kernel
theorem dX4_playByTurns_99 : decode cX4_playByTurns 99 = .ok (.iinc 4 1, 3) := by decide +kernel
theorem dX4_playByTurns_102 : decode cX4_playByTurns 102 = .ok (.iinc 7 1, 3) := by decide +kernel
theorem dX4_playByTurns_105 : decode cX4_playByTurns 105 = .ok (.goto (-85), 3) := by decide +kernel
theorem dX4_playByTurns_108 : decode cX4_playByTurns 108 = .ok (.return_, 1) := by decide +kernel
theorem dX4_isNearWay_0 : decode cX4_isNearWay 0 = .ok (.iload_n 0, 1) := by decide +kernel
theorem dX4_isNearWay_1 : decode cX4_isNearWay 1 = .ok (.bipush 102, 2) := by decide +kernel
theorem dX4_isNearWay_3 : decode cX4_isNearWay 3 = .ok (.if_icmp .eq 21, 3) := by decide +kernel
theorem dX4_isNearWay_6 : decode cX4_isNearWay 6 = .ok (.iload_n 0, 1) := by decide +kernel
theorem dX4_isNearWay_7 : decode cX4_isNearWay 7 = .ok (.bipush 99, 2) := by decide +kernel
theorem dX4_isNearWay_9 : decode cX4_isNearWay 9 = .ok (.if_icmp .eq 15, 3) := by decide +kernel
theorem dX4_isNearWay_12 : decode cX4_isNearWay 12 = .ok (.iload_n 0, 1) := by decide +kernel
theorem dX4_isNearWay_13 : decode cX4_isNearWay 13 = .ok (.bipush 104, 2) := by decide +kernel
theorem dX4_isNearWay_15 : decode cX4_isNearWay 15 = .ok (.if_icmp .eq 9, 3) := by decide +kernel
theorem dX4_isNearWay_18 : decode cX4_isNearWay 18 = .ok (.iload_n 0, 1) := by decide +kernel
theorem dX4_isNearWay_19 : decode cX4_isNearWay 19 = .ok (.bipush 108, 2) := by decide +kernel
theorem dX4_isNearWay_21 : decode cX4_isNearWay 21 = .ok (.if_icmp .ne 7, 3) := by decide +kernel
theorem dX4_isNearWay_24 : decode cX4_isNearWay 24 = .ok (.iconst 1, 1) := by decide +kernel
theorem dX4_isNearWay_25 : decode cX4_isNearWay 25 = .ok (.goto 4, 3) := by decide +kernel
theorem dX4_isNearWay_28 : decode cX4_isNearWay 28 = .ok (.iconst 0, 1) := by decide +kernel
theorem dX4_isNearWay_29 : decode cX4_isNearWay 29 = .ok (.ireturn, 1) := by decide +kernel
theorem dX4_isStepKind_0 : decode cX4_isStepKind 0 = .ok (.iload_n 0, 1) := by decide +kernel
theorem dX4_isStepKind_1 : decode cX4_isStepKind 1 = .ok (.bipush 112, 2) := by decide +kernel
theorem dX4_isStepKind_3 : decode cX4_isStepKind 3 = .ok (.if_icmp .eq 27, 3) := by decide +kernel
theorem dX4_isStepKind_6 : decode cX4_isStepKind 6 = .ok (.iload_n 0, 1) := by decide +kernel
theorem dX4_isStepKind_7 : decode cX4_isStepKind 7 = .ok (.bipush 114, 2) := by decide +kernel
theorem dX4_isStepKind_9 : decode cX4_isStepKind 9 = .ok (.if_icmp .eq 21, 3) := by decide +kernel
theorem dX4_isStepKind_12 : decode cX4_isStepKind 12 = .ok (.iload_n 0, 1) := by decide +kernel
theorem dX4_isStepKind_13 : decode cX4_isStepKind 13 = .ok (.bipush 115, 2) := by decide +kernel
theorem dX4_isStepKind_15 : decode cX4_isStepKind 15 = .ok (.if_icmp .eq 15, 3) := by decide +kernel
theorem dX4_isStepKind_18 : decode cX4_isStepKind 18 = .ok (.iload_n 0, 1) := by decide +kernel
theorem dX4_isStepKind_19 : decode cX4_isStepKind 19 = .ok (.bipush 97, 2) := by decide +kernel
theorem dX4_isStepKind_21 : decode cX4_isStepKind 21 = .ok (.if_icmp .eq 9, 3) := by decide +kernel
theorem dX4_isStepKind_24 : decode cX4_isStepKind 24 = .ok (.iload_n 0, 1) := by decide +kernel
theorem dX4_isStepKind_25 : decode cX4_isStepKind 25 = .ok (.bipush 120, 2) := by decide +kernel
theorem dX4_isStepKind_27 : decode cX4_isStepKind 27 = .ok (.if_icmp .ne 7, 3) := by decide +kernel
theorem dX4_isStepKind_30 : decode cX4_isStepKind 30 = .ok (.iconst 1, 1) := by decide +kernel
theorem dX4_isStepKind_31 : decode cX4_isStepKind 31 = .ok (.goto 4, 3) := by decide +kernel
theorem dX4_isStepKind_34 : decode cX4_isStepKind 34 = .ok (.iconst 0, 1) := by decide +kernel
theorem dX4_isStepKind_35 : decode cX4_isStepKind 35 = .ok (.ireturn, 1) := by decide +kernel
theorem dX4_isMixWay_0 : decode cX4_isMixWay 0 = .ok (.iload_n 0, 1) := by decide +kernel
theorem dX4_isMixWay_1 : decode cX4_isMixWay 1 = .ok (.bipush 115, 2) := by decide +kernel
theorem dX4_isMixWay_3 : decode cX4_isMixWay 3 = .ok (.if_icmp .eq 15, 3) := by decide +kernel
theorem dX4_isMixWay_6 : decode cX4_isMixWay 6 = .ok (.iload_n 0, 1) := by decide +kernel
theorem dX4_isMixWay_7 : decode cX4_isMixWay 7 = .ok (.bipush 103, 2) := by decide +kernel
theorem dX4_isMixWay_9 : decode cX4_isMixWay 9 = .ok (.if_icmp .eq 9, 3) := by decide +kernel
theorem dX4_isMixWay_12 : decode cX4_isMixWay 12 = .ok (.iload_n 0, 1) := by decide +kernel
theorem dX4_isMixWay_13 : decode cX4_isMixWay 13 = .ok (.bipush 108, 2) := by decide +kernel
theorem dX4_isMixWay_15 : decode cX4_isMixWay 15 = .ok (.if_icmp .ne 7, 3) := by decide +kernel
theorem dX4_isMixWay_18 : decode cX4_isMixWay 18 = .ok (.iconst 1, 1) := by decide +kernel
theorem dX4_isMixWay_19 : decode cX4_isMixWay 19 = .ok (.goto 4, 3) := by decide +kernel
theorem dX4_isMixWay_22 : decode cX4_isMixWay 22 = .ok (.iconst 0, 1) := by decide +kernel
theorem dX4_isMixWay_23 : decode cX4_isMixWay 23 = .ok (.ireturn, 1) := by decide +kernel
theorem dX4_chain_0 : decode cX4_chain 0 = .ok (.ldc2_w 306, 3) := by decide +kernel
theorem dX4_chain_3 : decode cX4_chain 3 = .ok (.lload_n 0, 1) := by decide +kernel
theorem dX4_chain_4 : decode cX4_chain 4 = .ok (.lmul, 1) := by decide +kernel
theorem dX4_chain_5 : decode cX4_chain 5 = .ok (.iload_n 2, 1) := by decide +kernel
theorem dX4_chain_6 : decode cX4_chain 6 = .ok (.i2l, 1) := by decide +kernel
theorem dX4_chain_7 : decode cX4_chain 7 = .ok (.ladd, 1) := by decide +kernel
theorem dX4_chain_8 : decode cX4_chain 8 = .ok (.lreturn, 1) := by decide +kernel
end
section
theorem dX5_init_0 : decode cX5_init 0 = .ok (.aload_n 0, 1) := by decide +kernel
theorem dX5_init_1 : decode cX5_init 1 = .ok (.invokespecial 1, 3) := by decide +kernel
theorem dX5_init_4 : decode cX5_init 4 = .ok (.aload_n 0, 1) := by decide +kernel
theorem dX5_init_5 : decode cX5_init 5 = .ok (.sipush 180, 3) := by decide +kernel
theorem dX5_init_8 : decode cX5_init 8 = .ok (.newarray .int, 2) := by decide +kernel
theorem dX5_init_10 : decode cX5_init 10 = .ok (.putfield 7, 3) := by decide +kernel
theorem dX5_init_13 : decode cX5_init 13 = .ok (.aload_n 0, 1) := by decide +kernel
theorem dX5_init_14 : decode cX5_init 14 = .ok (.sipush 180, 3) := by decide +kernel
theorem dX5_init_17 : decode cX5_init 17 = .ok (.newarray .int, 2) := by decide +kernel
theorem dX5_init_19 : decode cX5_init 19 = .ok (.putfield 13, 3) := by decide +kernel
theorem dX5_init_22 : decode cX5_init 22 = .ok (.aload_n 0, 1) := by decide +kernel
theorem dX5_init_23 : decode cX5_init 23 = .ok (.iconst 3, 1) := by decide +kernel
theorem dX5_init_24 : decode cX5_init 24 = .ok (.newarray .int, 2) := by decide +kernel
theorem dX5_init_26 : decode cX5_init 26 = .ok (.putfield 16, 3) := by decide +kernel
theorem dX5_init_29 : decode cX5_init 29 = .ok (.aload_n 0, 1) := by decide +kernel
theorem dX5_init_30 : decode cX5_init 30 = .ok (.iconst 4, 1) := by decide +kernel
theorem dX5_init_31 : decode cX5_init 31 = .ok (.newarray .boolean, 2) := by decide +kernel
theorem dX5_init_33 : decode cX5_init 33 = .ok (.putfield 19, 3) := by decide +kernel
theorem dX5_init_36 : decode cX5_init 36 = .ok (.aload_n 0, 1) := by decide +kernel
theorem dX5_init_37 : decode cX5_init 37 = .ok (.iconst 4, 1) := by decide +kernel
theorem dX5_init_38 : decode cX5_init 38 = .ok (.newarray .int, 2) := by decide +kernel
theorem dX5_init_40 : decode cX5_init 40 = .ok (.putfield 23, 3) := by decide +kernel
theorem dX5_init_43 : decode cX5_init 43 = .ok (.aload_n 0, 1) := by decide +kernel
theorem dX5_init_44 : decode cX5_init 44 = .ok (.iconst 4, 1) := by decide +kernel
theorem dX5_init_45 : decode cX5_init 45 = .ok (.newarray .int, 2) := by decide +kernel
theorem dX5_init_47 : decode cX5_init 47 = .ok (.putfield 26, 3) := by decide +kernel
theorem dX5_init_50 : decode cX5_init 50 = .ok (.aload_n 0, 1) := by decide +kernel
theorem dX5_init_51 : decode cX5_init 51 = .ok (.iconst 4, 1) := by decide +kernel
theorem dX5_init_52 : decode cX5_init 52 = .ok (.newarray .int, 2) := by decide +kernel
theorem dX5_init_54 : decode cX5_init 54 = .ok (.putfield 29, 3) := by decide +kernel
theorem dX5_init_57 : decode cX5_init 57 = .ok (.aload_n 0, 1) := by decide +kernel
theorem dX5_init_58 : decode cX5_init 58 = .ok (.iconst 4, 1) := by decide +kernel
theorem dX5_init_59 : decode cX5_init 59 = .ok (.newarray .boolean, 2) := by decide +kernel
theorem dX5_init_61 : decode cX5_init 61 = .ok (.putfield 32, 3) := by decide +kernel
theorem dX5_init_64 : decode cX5_init 64 = .ok (.aload_n 0, 1) := by decide +kernel
theorem dX5_init_65 : decode cX5_init 65 = .ok (.iconst 4, 1) := by decide +kernel
theorem dX5_init_66 : decode cX5_init 66 = .ok (.newarray .boolean, 2) := by decide +kernel
theorem dX5_init_68 : decode cX5_init 68 = .ok (.putfield 35, 3) := by decide +kernel
theorem dX5_init_71 : decode cX5_init 71 = .ok (.aload_n 0, 1) := by decide +kernel
theorem dX5_init_72 : decode cX5_init 72 = .ok (.iconst 4, 1) := by decide +kernel
theorem dX5_init_73 : decode cX5_init 73 = .ok (.newarray .int, 2) := by decide +kernel
theorem dX5_init_75 : decode cX5_init 75 = .ok (.putfield 38, 3) := by decide +kernel
theorem dX5_init_78 : decode cX5_init 78 = .ok (.aload_n 0, 1) := by decide +kernel
theorem dX5_init_79 : decode cX5_init 79 = .ok (.bipush 90, 2) := by decide +kernel
theorem dX5_init_81 : decode cX5_init 81 = .ok (.newarray .char, 2) := by decide +kernel
theorem dX5_init_83 : decode cX5_init 83 = .ok (.putfield 41, 3) := by decide +kernel
theorem dX5_init_86 : decode cX5_init 86 = .ok (.aload_n 0, 1) := by decide +kernel
theorem dX5_init_87 : decode cX5_init 87 = .ok (.bipush 90, 2) := by decide +kernel
theorem dX5_init_89 : decode cX5_init 89 = .ok (.newarray .int, 2) := by decide +kernel
theorem dX5_init_91 : decode cX5_init 91 = .ok (.putfield 45, 3) := by decide +kernel
theorem dX5_init_94 : decode cX5_init 94 = .ok (.aload_n 0, 1) := by decide +kernel
theorem dX5_init_95 : decode cX5_init 95 = .ok (.bipush 90, 2) := by decide +kernel
theorem dX5_init_97 : decode cX5_init 97 = .ok (.newarray .int, 2) := by decide +kernel
theorem dX5_init_99 : decode cX5_init 99 = .ok (.putfield 48, 3) := by decide +kernel
theorem dX5_init_102 : decode cX5_init 102 = .ok (.aload_n 0, 1) := by decide +kernel
theorem dX5_init_103 : decode cX5_init 103 = .ok (.iconst 3, 1) := by decide +kernel
theorem dX5_init_104 : decode cX5_init 104 = .ok (.newarray .int, 2) := by decide +kernel
theorem dX5_init_106 : decode cX5_init 106 = .ok (.putfield 51, 3) := by decide +kernel
theorem dX5_init_109 : decode cX5_init 109 = .ok (.aload_n 0, 1) := by decide +kernel
theorem dX5_init_110 : decode cX5_init 110 = .ok (.bipush 60, 2) := by decide +kernel
theorem dX5_init_112 : decode cX5_init 112 = .ok (.newarray .int, 2) := by decide +kernel
theorem dX5_init_114 : decode cX5_init 114 = .ok (.putfield 54, 3) := by decide +kernel
theorem dX5_init_117 : decode cX5_init 117 = .ok (.aload_n 0, 1) := by decide +kernel
theorem dX5_init_118 : decode cX5_init 118 = .ok (.bipush 60, 2) := by decide +kernel
theorem dX5_init_120 : decode cX5_init 120 = .ok (.newarray .int, 2) := by decide +kernel
theorem dX5_init_122 : decode cX5_init 122 = .ok (.putfield 57, 3) := by decide +kernel
theorem dX5_init_125 : decode cX5_init 125 = .ok (.aload_n 0, 1) := by decide +kernel
theorem dX5_init_126 : decode cX5_init 126 = .ok (.iconst 0, 1) := by decide +kernel
theorem dX5_init_127 : decode cX5_init 127 = .ok (.putfield 60, 3) := by decide +kernel
theorem dX5_init_130 : decode cX5_init 130 = .ok (.return_, 1) := by decide +kernel
theorem dX5_thrown_0 : decode cX5_thrown 0 = .ok (.aload_n 0, 1) := by decide +kernel
theorem dX5_thrown_1 : decode cX5_thrown 1 = .ok (.getfield 60, 3) := by decide +kernel
theorem dX5_thrown_4 : decode cX5_thrown 4 = .ok (.ireturn, 1) := by decide +kernel
theorem dX5_refused_0 : decode cX5_refused 0 = .ok (.aload_n 0, 1) := by decide +kernel
theorem dX5_refused_1 : decode cX5_refused 1 = .ok (.iload_n 1, 1) := by decide +kernel
theorem dX5_refused_2 : decode cX5_refused 2 = .ok (.putfield 60, 3) := by decide +kernel
theorem dX5_refused_5 : decode cX5_refused 5 = .ok (.iload_n 1, 1) := by decide +kernel
theorem dX5_refused_6 : decode cX5_refused 6 = .ok (.ifCond .eq 7, 3) := by decide +kernel
theorem dX5_refused_9 : decode cX5_refused 9 = .ok (.iconst 1, 1) := by decide +kernel
theorem dX5_refused_10 : decode cX5_refused 10 = .ok (.goto 4, 3) := by decide +kernel
theorem dX5_refused_13 : decode cX5_refused 13 = .ok (.iconst 0, 1) := by decide +kernel
theorem dX5_refused_14 : decode cX5_refused 14 = .ok (.ireturn, 1) := by decide +kernel
theorem dX5_in_0 : decode cX5_in 0 = .ok (.iload_n 0, 1) := by decide +kernel
theorem dX5_in_1 : decode cX5_in 1 = .ok (.iload_n 1, 1) := by decide +kernel
theorem dX5_in_2 : decode cX5_in 2 = .ok (.if_icmp .lt 12, 3) := by decide +kernel
theorem dX5_in_5 : decode cX5_in 5 = .ok (.iload_n 0, 1) := by decide +kernel
theorem dX5_in_6 : decode cX5_in 6 = .ok (.iload_n 2, 1) := by decide +kernel
theorem dX5_in_7 : decode cX5_in 7 = .ok (.if_icmp .gt 7, 3) := by decide +kernel
theorem dX5_in_10 : decode cX5_in 10 = .ok (.iconst 1, 1) := by decide +kernel
theorem dX5_in_11 : decode cX5_in 11 = .ok (.goto 4, 3) := by decide +kernel
theorem dX5_in_14 : decode cX5_in 14 = .ok (.iconst 0, 1) := by decide +kernel
theorem dX5_in_15 : decode cX5_in 15 = .ok (.ireturn, 1) := by decide +kernel
theorem dX5_isMap_0 : decode cX5_isMap 0 = .ok (.iload_n 0, 1) := by decide +kernel
theorem dX5_isMap_1 : decode cX5_isMap 1 = .ok (.iconst 0, 1) := by decide +kernel
theorem dX5_isMap_2 : decode cX5_isMap 2 = .ok (.iconst 2, 1) := by decide +kernel
theorem dX5_isMap_3 : decode cX5_isMap 3 = .ok (.invokestatic 64, 3) := by decide +kernel
theorem dX5_isMap_6 : decode cX5_isMap 6 = .ok (.ireturn, 1) := by decide +kernel
theorem dX5_isView_0 : decode cX5_isView 0 = .ok (.iload_n 0, 1) := by decide +kernel
theorem dX5_isView_1 : decode cX5_isView 1 = .ok (.iconst 0, 1) := by decide +kernel
theorem dX5_isView_2 : decode cX5_isView 2 = .ok (.iconst 3, 1) := by decide +kernel
theorem dX5_isView_3 : decode cX5_isView 3 = .ok (.invokestatic 64, 3) := by decide +kernel
theorem dX5_isView_6 : decode cX5_isView 6 = .ok (.ireturn, 1) := by decide +kernel
theorem dX5_isHistory_0 : decode cX5_isHistory 0 = .ok (.iload_n 0, 1) := by decide +kernel
theorem dX5_isHistory_1 : decode cX5_isHistory 1 = .ok (.iconst 0, 1) := by decide +kernel
theorem dX5_isHistory_2 : decode cX5_isHistory 2 = .ok (.iconst 2, 1) := by decide +kernel
theorem dX5_isHistory_3 : decode cX5_isHistory 3 = .ok (.invokestatic 64, 3) := by decide +kernel
theorem dX5_isHistory_6 : decode cX5_isHistory 6 = .ok (.ireturn, 1) := by decide +kernel
theorem dX5_isWay_0 : decode cX5_isWay 0 = .ok (.iload_n 0, 1) := by decide +kernel
theorem dX5_isWay_1 : decode cX5_isWay 1 = .ok (.bipush 102, 2) := by decide +kernel
theorem dX5_isWay_3 : decode cX5_isWay 3 = .ok (.if_icmp .eq 21, 3) := by decide +kernel
theorem dX5_isWay_6 : decode cX5_isWay 6 = .ok (.iload_n 0, 1) := by decide +kernel
theorem dX5_isWay_7 : decode cX5_isWay 7 = .ok (.bipush 99, 2) := by decide +kernel
theorem dX5_isWay_9 : decode cX5_isWay 9 = .ok (.if_icmp .eq 15, 3) := by decide +kernel
theorem dX5_isWay_12 : decode cX5_isWay 12 = .ok (.iload_n 0, 1) := by decide +kernel
theorem dX5_isWay_13 : decode cX5_isWay 13 = .ok (.bipush 104, 2) := by decide +kernel
theorem dX5_isWay_15 : decode cX5_isWay 15 = .ok (.if_icmp .eq 9, 3) := by decide +kernel
theorem dX5_isWay_18 : decode cX5_isWay 18 = .ok (.iload_n 0, 1) := by decide +kernel
theorem dX5_isWay_19 : decode cX5_isWay 19 = .ok (.bipush 108, 2) := by decide +kernel
theorem dX5_isWay_21 : decode cX5_isWay 21 = .ok (.if_icmp .ne 7, 3) := by decide +kernel
theorem dX5_isWay_24 : decode cX5_isWay 24 = .ok (.iconst 1, 1) := by decide +kernel
theorem dX5_isWay_25 : decode cX5_isWay 25 = .ok (.goto 4, 3) := by decide +kernel
theorem dX5_isWay_28 : decode cX5_isWay 28 = .ok (.iconst 0, 1) := by decide +kernel
theorem dX5_isWay_29 : decode cX5_isWay 29 = .ok (.ireturn, 1) := by decide +kernel
theorem dX5_placeOf_0 : decode cX5_placeOf 0 = .ok (.iconst 0, 1) := by decide +kernel
theorem dX5_placeOf_1 : decode cX5_placeOf 1 = .ok (.istore_n 3, 1) := by decide +kernel
theorem dX5_placeOf_2 : decode cX5_placeOf 2 = .ok (.iload_n 3, 1) := by decide +kernel
theorem dX5_placeOf_3 : decode cX5_placeOf 3 = .ok (.aload_n 0, 1) := by decide +kernel
theorem dX5_placeOf_4 : decode cX5_placeOf 4 = .ok (.getfield 16, 3) := by decide +kernel
theorem dX5_placeOf_7 : decode cX5_placeOf 7 = .ok (.iload_n 1, 1) := by decide +kernel
theorem dX5_placeOf_8 : decode cX5_placeOf 8 = .ok (.iaload, 1) := by decide +kernel
theorem dX5_placeOf_9 : decode cX5_placeOf 9 = .ok (.if_icmp .ge 24, 3) := by decide +kernel
theorem dX5_placeOf_12 : decode cX5_placeOf 12 = .ok (.aload_n 0, 1) := by decide +kernel
theorem dX5_placeOf_13 : decode cX5_placeOf 13 = .ok (.getfield 7, 3) := by decide +kernel
theorem dX5_placeOf_16 : decode cX5_placeOf 16 = .ok (.bipush 60, 2) := by decide +kernel
theorem dX5_placeOf_18 : decode cX5_placeOf 18 = .ok (.iload_n 1, 1) := by decide +kernel
theorem dX5_placeOf_19 : decode cX5_placeOf 19 = .ok (.imul, 1) := by decide +kernel
theorem dX5_placeOf_20 : decode cX5_placeOf 20 = .ok (.iload_n 3, 1) := by decide +kernel
theorem dX5_placeOf_21 : decode cX5_placeOf 21 = .ok (.iadd, 1) := by decide +kernel
theorem dX5_placeOf_22 : decode cX5_placeOf 22 = .ok (.iaload, 1) := by decide +kernel
theorem dX5_placeOf_23 : decode cX5_placeOf 23 = .ok (.iload_n 2, 1) := by decide +kernel
theorem dX5_placeOf_24 : decode cX5_placeOf 24 = .ok (.if_icmp .ge 9, 3) := by decide +kernel
theorem dX5_placeOf_27 : decode cX5_placeOf 27 = .ok (.iinc 3 1, 3) := by decide +kernel
theorem dX5_placeOf_30 : decode cX5_placeOf 30 = .ok (.goto (-28), 3) := by decide +kernel
theorem dX5_placeOf_33 : decode cX5_placeOf 33 = .ok (.iload_n 3, 1) := by decide +kernel
theorem dX5_placeOf_34 : decode cX5_placeOf 34 = .ok (.aload_n 0, 1) := by decide +kernel
theorem dX5_placeOf_35 : decode cX5_placeOf 35 = .ok (.getfield 16, 3) := by decide +kernel
theorem dX5_placeOf_38 : decode cX5_placeOf 38 = .ok (.iload_n 1, 1) := by decide +kernel
theorem dX5_placeOf_39 : decode cX5_placeOf 39 = .ok (.iaload, 1) := by decide +kernel
theorem dX5_placeOf_40 : decode cX5_placeOf 40 = .ok (.if_icmp .ge 22, 3) := by decide +kernel
theorem dX5_placeOf_43 : decode cX5_placeOf 43 = .ok (.aload_n 0, 1) := by decide +kernel
theorem dX5_placeOf_44 : decode cX5_placeOf 44 = .ok (.getfield 7, 3) := by decide +kernel
theorem dX5_placeOf_47 : decode cX5_placeOf 47 = .ok (.bipush 60, 2) := by decide +kernel
theorem dX5_placeOf_49 : decode cX5_placeOf 49 = .ok (.iload_n 1, 1) := by decide +kernel
theorem dX5_placeOf_50 : decode cX5_placeOf 50 = .ok (.imul, 1) := by decide +kernel
theorem dX5_placeOf_51 : decode cX5_placeOf 51 = .ok (.iload_n 3, 1) := by decide +kernel
theorem dX5_placeOf_52 : decode cX5_placeOf 52 = .ok (.iadd, 1) := by decide +kernel
theorem dX5_placeOf_53 : decode cX5_placeOf 53 = .ok (.iaload, 1) := by decide +kernel
theorem dX5_placeOf_54 : decode cX5_placeOf 54 = .ok (.iload_n 2, 1) := by decide +kernel
theorem dX5_placeOf_55 : decode cX5_placeOf 55 = .ok (.if_icmp .ne 7, 3) := by decide +kernel
theorem dX5_placeOf_58 : decode cX5_placeOf 58 = .ok (.iload_n 3, 1) := by decide +kernel
theorem dX5_placeOf_59 : decode cX5_placeOf 59 = .ok (.goto 6, 3) := by decide +kernel
theorem dX5_placeOf_62 : decode cX5_placeOf 62 = .ok (.iconst (-1), 1) := by decide +kernel
theorem dX5_placeOf_63 : decode cX5_placeOf 63 = .ok (.iload_n 3, 1) := by decide +kernel
theorem dX5_placeOf_64 : decode cX5_placeOf 64 = .ok (.isub, 1) := by decide +kernel
theorem dX5_placeOf_65 : decode cX5_placeOf 65 = .ok (.ireturn, 1) := by decide +kernel
theorem dX5_has_0 : decode cX5_has 0 = .ok (.aload_n 0, 1) := by decide +kernel
theorem dX5_has_1 : decode cX5_has 1 = .ok (.iload_n 1, 1) := by decide +kernel
theorem dX5_has_2 : decode cX5_has 2 = .ok (.iload_n 2, 1) := by decide +kernel
theorem dX5_has_3 : decode cX5_has 3 = .ok (.invokevirtual 68, 3) := by decide +kernel
theorem dX5_has_6 : decode cX5_has 6 = .ok (.ifCond .lt 7, 3) := by decide +kernel
theorem dX5_has_9 : decode cX5_has 9 = .ok (.iconst 1, 1) := by decide +kernel
theorem dX5_has_10 : decode cX5_has 10 = .ok (.goto 4, 3) := by decide +kernel
theorem dX5_has_13 : decode cX5_has 13 = .ok (.iconst 0, 1) := by decide +kernel
theorem dX5_has_14 : decode cX5_has 14 = .ok (.ireturn, 1) := by decide +kernel
theorem dX5_puts_0 : decode cX5_puts 0 = .ok (.aload_n 0, 1) := by decide +kernel
theorem dX5_puts_1 : decode cX5_puts 1 = .ok (.iload_n 1, 1) := by decide +kernel
theorem dX5_puts_2 : decode cX5_puts 2 = .ok (.iload_n 2, 1) := by decide +kernel
theorem dX5_puts_3 : decode cX5_puts 3 = .ok (.invokevirtual 68, 3) := by decide +kernel
theorem dX5_puts_6 : decode cX5_puts 6 = .ok (.istore 4, 2) := by decide +kernel
theorem dX5_puts_8 : decode cX5_puts 8 = .ok (.iload 4, 2) := by decide +kernel
theorem dX5_puts_10 : decode cX5_puts 10 = .ok (.ifCond .ge 105, 3) := by decide +kernel
theorem dX5_puts_13 : decode cX5_puts 13 = .ok (.iconst (-1), 1) := by decide +kernel
theorem dX5_puts_14 : decode cX5_puts 14 = .ok (.iload 4, 2) := by decide +kernel
theorem dX5_puts_16 : decode cX5_puts 16 = .ok (.isub, 1) := by decide +kernel
theorem dX5_puts_17 : decode cX5_puts 17 = .ok (.istore 4, 2) := by decide +kernel
theorem dX5_puts_19 : decode cX5_puts 19 = .ok (.aload_n 0, 1) := by decide +kernel
theorem dX5_puts_20 : decode cX5_puts 20 = .ok (.getfield 16, 3) := by decide +kernel
theorem dX5_puts_23 : decode cX5_puts 23 = .ok (.iload_n 1, 1) := by decide +kernel
theorem dX5_puts_24 : decode cX5_puts 24 = .ok (.iaload, 1) := by decide +kernel
theorem dX5_puts_25 : decode cX5_puts 25 = .ok (.istore 5, 2) := by decide +kernel
theorem dX5_puts_27 : decode cX5_puts 27 = .ok (.iload 5, 2) := by decide +kernel
theorem dX5_puts_29 : decode cX5_puts 29 = .ok (.iload 4, 2) := by decide +kernel
theorem dX5_puts_31 : decode cX5_puts 31 = .ok (.if_icmp .le 61, 3) := by decide +kernel
theorem dX5_puts_34 : decode cX5_puts 34 = .ok (.aload_n 0, 1) := by decide +kernel
theorem dX5_puts_35 : decode cX5_puts 35 = .ok (.getfield 7, 3) := by decide +kernel
theorem dX5_puts_38 : decode cX5_puts 38 = .ok (.bipush 60, 2) := by decide +kernel
theorem dX5_puts_40 : decode cX5_puts 40 = .ok (.iload_n 1, 1) := by decide +kernel
theorem dX5_puts_41 : decode cX5_puts 41 = .ok (.imul, 1) := by decide +kernel
theorem dX5_puts_42 : decode cX5_puts 42 = .ok (.iload 5, 2) := by decide +kernel
theorem dX5_puts_44 : decode cX5_puts 44 = .ok (.iadd, 1) := by decide +kernel
theorem dX5_puts_45 : decode cX5_puts 45 = .ok (.aload_n 0, 1) := by decide +kernel
theorem dX5_puts_46 : decode cX5_puts 46 = .ok (.getfield 7, 3) := by decide +kernel
theorem dX5_puts_49 : decode cX5_puts 49 = .ok (.bipush 60, 2) := by decide +kernel
theorem dX5_puts_51 : decode cX5_puts 51 = .ok (.iload_n 1, 1) := by decide +kernel
theorem dX5_puts_52 : decode cX5_puts 52 = .ok (.imul, 1) := by decide +kernel
theorem dX5_puts_53 : decode cX5_puts 53 = .ok (.iload 5, 2) := by decide +kernel
theorem dX5_puts_55 : decode cX5_puts 55 = .ok (.iadd, 1) := by decide +kernel
theorem dX5_puts_56 : decode cX5_puts 56 = .ok (.iconst 1, 1) := by decide +kernel
theorem dX5_puts_57 : decode cX5_puts 57 = .ok (.isub, 1) := by decide +kernel
theorem dX5_puts_58 : decode cX5_puts 58 = .ok (.iaload, 1) := by decide +kernel
theorem dX5_puts_59 : decode cX5_puts 59 = .ok (.iastore, 1) := by decide +kernel
theorem dX5_puts_60 : decode cX5_puts 60 = .ok (.aload_n 0, 1) := by decide +kernel
theorem dX5_puts_61 : decode cX5_puts 61 = .ok (.getfield 13, 3) := by decide +kernel
theorem dX5_puts_64 : decode cX5_puts 64 = .ok (.bipush 60, 2) := by decide +kernel
theorem dX5_puts_66 : decode cX5_puts 66 = .ok (.iload_n 1, 1) := by decide +kernel
theorem dX5_puts_67 : decode cX5_puts 67 = .ok (.imul, 1) := by decide +kernel
theorem dX5_puts_68 : decode cX5_puts 68 = .ok (.iload 5, 2) := by decide +kernel
theorem dX5_puts_70 : decode cX5_puts 70 = .ok (.iadd, 1) := by decide +kernel
theorem dX5_puts_71 : decode cX5_puts 71 = .ok (.aload_n 0, 1) := by decide +kernel
theorem dX5_puts_72 : decode cX5_puts 72 = .ok (.getfield 13, 3) := by decide +kernel
theorem dX5_puts_75 : decode cX5_puts 75 = .ok (.bipush 60, 2) := by decide +kernel
theorem dX5_puts_77 : decode cX5_puts 77 = .ok (.iload_n 1, 1) := by decide +kernel
theorem dX5_puts_78 : decode cX5_puts 78 = .ok (.imul, 1) := by decide +kernel
theorem dX5_puts_79 : decode cX5_puts 79 = .ok (.iload 5, 2) := by decide +kernel
theorem dX5_puts_81 : decode cX5_puts 81 = .ok (.iadd, 1) := by decide +kernel
theorem dX5_puts_82 : decode cX5_puts 82 = .ok (.iconst 1, 1) := by decide +kernel
theorem dX5_puts_83 : decode cX5_puts 83 = .ok (.isub, 1) := by decide +kernel
theorem dX5_puts_84 : decode cX5_puts 84 = .ok (.iaload, 1) := by decide +kernel
theorem dX5_puts_85 : decode cX5_puts 85 = .ok (.iastore, 1) := by decide +kernel
theorem dX5_puts_86 : decode cX5_puts 86 = .ok (.iinc 5 (-1), 3) := by decide +kernel
theorem dX5_puts_89 : decode cX5_puts 89 = .ok (.goto (-62), 3) := by decide +kernel
theorem dX5_puts_92 : decode cX5_puts 92 = .ok (.aload_n 0, 1) := by decide +kernel
theorem dX5_puts_93 : decode cX5_puts 93 = .ok (.getfield 16, 3) := by decide +kernel
theorem dX5_puts_96 : decode cX5_puts 96 = .ok (.iload_n 1, 1) := by decide +kernel
theorem dX5_puts_97 : decode cX5_puts 97 = .ok (.dup2, 1) := by decide +kernel
theorem dX5_puts_98 : decode cX5_puts 98 = .ok (.iaload, 1) := by decide +kernel
theorem dX5_puts_99 : decode cX5_puts 99 = .ok (.iconst 1, 1) := by decide +kernel
theorem dX5_puts_100 : decode cX5_puts 100 = .ok (.iadd, 1) := by decide +kernel
theorem dX5_puts_101 : decode cX5_puts 101 = .ok (.iastore, 1) := by decide +kernel
theorem dX5_puts_102 : decode cX5_puts 102 = .ok (.aload_n 0, 1) := by decide +kernel
theorem dX5_puts_103 : decode cX5_puts 103 = .ok (.getfield 7, 3) := by decide +kernel
theorem dX5_puts_106 : decode cX5_puts 106 = .ok (.bipush 60, 2) := by decide +kernel
theorem dX5_puts_108 : decode cX5_puts 108 = .ok (.iload_n 1, 1) := by decide +kernel
theorem dX5_puts_109 : decode cX5_puts 109 = .ok (.imul, 1) := by decide +kernel
theorem dX5_puts_110 : decode cX5_puts 110 = .ok (.iload 4, 2) := by decide +kernel
theorem dX5_puts_112 : decode cX5_puts 112 = .ok (.iadd, 1) := by decide +kernel
theorem dX5_puts_113 : decode cX5_puts 113 = .ok (.iload_n 2, 1) := by decide +kernel
theorem dX5_puts_114 : decode cX5_puts 114 = .ok (.iastore, 1) := by decide +kernel
theorem dX5_puts_115 : decode cX5_puts 115 = .ok (.aload_n 0, 1) := by decide +kernel
theorem dX5_puts_116 : decode cX5_puts 116 = .ok (.getfield 13, 3) := by decide +kernel
theorem dX5_puts_119 : decode cX5_puts 119 = .ok (.bipush 60, 2) := by decide +kernel
theorem dX5_puts_121 : decode cX5_puts 121 = .ok (.iload_n 1, 1) := by decide +kernel
theorem dX5_puts_122 : decode cX5_puts 122 = .ok (.imul, 1) := by decide +kernel
theorem dX5_puts_123 : decode cX5_puts 123 = .ok (.iload 4, 2) := by decide +kernel
theorem dX5_puts_125 : decode cX5_puts 125 = .ok (.iadd, 1) := by decide +kernel
theorem dX5_puts_126 : decode cX5_puts 126 = .ok (.iload_n 3, 1) := by decide +kernel
theorem dX5_puts_127 : decode cX5_puts 127 = .ok (.iastore, 1) := by decide +kernel
theorem dX5_puts_128 : decode cX5_puts 128 = .ok (.return_, 1) := by decide +kernel
theorem dX5_takes_0 : decode cX5_takes 0 = .ok (.aload_n 0, 1) := by decide +kernel
theorem dX5_takes_1 : decode cX5_takes 1 = .ok (.getfield 16, 3) := by decide +kernel
theorem dX5_takes_4 : decode cX5_takes 4 = .ok (.iload_n 1, 1) := by decide +kernel
theorem dX5_takes_5 : decode cX5_takes 5 = .ok (.dup2, 1) := by decide +kernel
theorem dX5_takes_6 : decode cX5_takes 6 = .ok (.iaload, 1) := by decide +kernel
theorem dX5_takes_7 : decode cX5_takes 7 = .ok (.iconst 1, 1) := by decide +kernel
theorem dX5_takes_8 : decode cX5_takes 8 = .ok (.isub, 1) := by decide +kernel
theorem dX5_takes_9 : decode cX5_takes 9 = .ok (.iastore, 1) := by decide +kernel
theorem dX5_takes_10 : decode cX5_takes 10 = .ok (.iload_n 2, 1) := by decide +kernel
theorem dX5_takes_11 : decode cX5_takes 11 = .ok (.istore_n 3, 1) := by decide +kernel
theorem dX5_takes_12 : decode cX5_takes 12 = .ok (.iload_n 3, 1) := by decide +kernel
theorem dX5_takes_13 : decode cX5_takes 13 = .ok (.aload_n 0, 1) := by decide +kernel
theorem dX5_takes_14 : decode cX5_takes 14 = .ok (.getfield 16, 3) := by decide +kernel
theorem dX5_takes_17 : decode cX5_takes 17 = .ok (.iload_n 1, 1) := by decide +kernel
theorem dX5_takes_18 : decode cX5_takes 18 = .ok (.iaload, 1) := by decide +kernel
theorem dX5_takes_19 : decode cX5_takes 19 = .ok (.if_icmp .ge 57, 3) := by decide +kernel
theorem dX5_takes_22 : decode cX5_takes 22 = .ok (.aload_n 0, 1) := by decide +kernel
theorem dX5_takes_23 : decode cX5_takes 23 = .ok (.getfield 7, 3) := by decide +kernel
theorem dX5_takes_26 : decode cX5_takes 26 = .ok (.bipush 60, 2) := by decide +kernel
theorem dX5_takes_28 : decode cX5_takes 28 = .ok (.iload_n 1, 1) := by decide +kernel
theorem dX5_takes_29 : decode cX5_takes 29 = .ok (.imul, 1) := by decide +kernel
theorem dX5_takes_30 : decode cX5_takes 30 = .ok (.iload_n 3, 1) := by decide +kernel
theorem dX5_takes_31 : decode cX5_takes 31 = .ok (.iadd, 1) := by decide +kernel
theorem dX5_takes_32 : decode cX5_takes 32 = .ok (.aload_n 0, 1) := by decide +kernel
theorem dX5_takes_33 : decode cX5_takes 33 = .ok (.getfield 7, 3) := by decide +kernel
theorem dX5_takes_36 : decode cX5_takes 36 = .ok (.bipush 60, 2) := by decide +kernel
theorem dX5_takes_38 : decode cX5_takes 38 = .ok (.iload_n 1, 1) := by decide +kernel
theorem dX5_takes_39 : decode cX5_takes 39 = .ok (.imul, 1) := by decide +kernel
theorem dX5_takes_40 : decode cX5_takes 40 = .ok (.iload_n 3, 1) := by decide +kernel
theorem dX5_takes_41 : decode cX5_takes 41 = .ok (.iadd, 1) := by decide +kernel
theorem dX5_takes_42 : decode cX5_takes 42 = .ok (.iconst 1, 1) := by decide +kernel
theorem dX5_takes_43 : decode cX5_takes 43 = .ok (.iadd, 1) := by decide +kernel
theorem dX5_takes_44 : decode cX5_takes 44 = .ok (.iaload, 1) := by decide +kernel
theorem dX5_takes_45 : decode cX5_takes 45 = .ok (.iastore, 1) := by decide +kernel
theorem dX5_takes_46 : decode cX5_takes 46 = .ok (.aload_n 0, 1) := by decide +kernel
theorem dX5_takes_47 : decode cX5_takes 47 = .ok (.getfield 13, 3) := by decide +kernel
theorem dX5_takes_50 : decode cX5_takes 50 = .ok (.bipush 60, 2) := by decide +kernel
theorem dX5_takes_52 : decode cX5_takes 52 = .ok (.iload_n 1, 1) := by decide +kernel
theorem dX5_takes_53 : decode cX5_takes 53 = .ok (.imul, 1) := by decide +kernel
theorem dX5_takes_54 : decode cX5_takes 54 = .ok (.iload_n 3, 1) := by decide +kernel
theorem dX5_takes_55 : decode cX5_takes 55 = .ok (.iadd, 1) := by decide +kernel
theorem dX5_takes_56 : decode cX5_takes 56 = .ok (.aload_n 0, 1) := by decide +kernel
theorem dX5_takes_57 : decode cX5_takes 57 = .ok (.getfield 13, 3) := by decide +kernel
theorem dX5_takes_60 : decode cX5_takes 60 = .ok (.bipush 60, 2) := by decide +kernel
theorem dX5_takes_62 : decode cX5_takes 62 = .ok (.iload_n 1, 1) := by decide +kernel
theorem dX5_takes_63 : decode cX5_takes 63 = .ok (.imul, 1) := by decide +kernel
theorem dX5_takes_64 : decode cX5_takes 64 = .ok (.iload_n 3, 1) := by decide +kernel
theorem dX5_takes_65 : decode cX5_takes 65 = .ok (.iadd, 1) := by decide +kernel
theorem dX5_takes_66 : decode cX5_takes 66 = .ok (.iconst 1, 1) := by decide +kernel
theorem dX5_takes_67 : decode cX5_takes 67 = .ok (.iadd, 1) := by decide +kernel
theorem dX5_takes_68 : decode cX5_takes 68 = .ok (.iaload, 1) := by decide +kernel
theorem dX5_takes_69 : decode cX5_takes 69 = .ok (.iastore, 1) := by decide +kernel
theorem dX5_takes_70 : decode cX5_takes 70 = .ok (.iinc 3 1, 3) := by decide +kernel
theorem dX5_takes_73 : decode cX5_takes 73 = .ok (.goto (-61), 3) := by decide +kernel
theorem dX5_takes_76 : decode cX5_takes 76 = .ok (.return_, 1) := by decide +kernel
theorem dX5_pollsAt_0 : decode cX5_pollsAt 0 = .ok (.aload_n 0, 1) := by decide +kernel
theorem dX5_pollsAt_1 : decode cX5_pollsAt 1 = .ok (.getfield 7, 3) := by decide +kernel
theorem dX5_pollsAt_4 : decode cX5_pollsAt 4 = .ok (.bipush 60, 2) := by decide +kernel
theorem dX5_pollsAt_6 : decode cX5_pollsAt 6 = .ok (.iload_n 1, 1) := by decide +kernel
theorem dX5_pollsAt_7 : decode cX5_pollsAt 7 = .ok (.imul, 1) := by decide +kernel
theorem dX5_pollsAt_8 : decode cX5_pollsAt 8 = .ok (.iload_n 2, 1) := by decide +kernel
theorem dX5_pollsAt_9 : decode cX5_pollsAt 9 = .ok (.iadd, 1) := by decide +kernel
theorem dX5_pollsAt_10 : decode cX5_pollsAt 10 = .ok (.iaload, 1) := by decide +kernel
theorem dX5_pollsAt_11 : decode cX5_pollsAt 11 = .ok (.istore_n 3, 1) := by decide +kernel
theorem dX5_pollsAt_12 : decode cX5_pollsAt 12 = .ok (.aload_n 0, 1) := by decide +kernel
theorem dX5_pollsAt_13 : decode cX5_pollsAt 13 = .ok (.iconst 1, 1) := by decide +kernel
theorem dX5_pollsAt_14 : decode cX5_pollsAt 14 = .ok (.putfield 72, 3) := by decide +kernel
theorem dX5_pollsAt_17 : decode cX5_pollsAt 17 = .ok (.aload_n 0, 1) := by decide +kernel
theorem dX5_pollsAt_18 : decode cX5_pollsAt 18 = .ok (.aload_n 0, 1) := by decide +kernel
theorem dX5_pollsAt_19 : decode cX5_pollsAt 19 = .ok (.getfield 13, 3) := by decide +kernel
theorem dX5_pollsAt_22 : decode cX5_pollsAt 22 = .ok (.bipush 60, 2) := by decide +kernel
theorem dX5_pollsAt_24 : decode cX5_pollsAt 24 = .ok (.iload_n 1, 1) := by decide +kernel
theorem dX5_pollsAt_25 : decode cX5_pollsAt 25 = .ok (.imul, 1) := by decide +kernel
theorem dX5_pollsAt_26 : decode cX5_pollsAt 26 = .ok (.iload_n 2, 1) := by decide +kernel
theorem dX5_pollsAt_27 : decode cX5_pollsAt 27 = .ok (.iadd, 1) := by decide +kernel
theorem dX5_pollsAt_28 : decode cX5_pollsAt 28 = .ok (.iaload, 1) := by decide +kernel
theorem dX5_pollsAt_29 : decode cX5_pollsAt 29 = .ok (.putfield 76, 3) := by decide +kernel
theorem dX5_pollsAt_32 : decode cX5_pollsAt 32 = .ok (.aload_n 0, 1) := by decide +kernel
theorem dX5_pollsAt_33 : decode cX5_pollsAt 33 = .ok (.iload_n 1, 1) := by decide +kernel
theorem dX5_pollsAt_34 : decode cX5_pollsAt 34 = .ok (.iload_n 2, 1) := by decide +kernel
theorem dX5_pollsAt_35 : decode cX5_pollsAt 35 = .ok (.invokevirtual 79, 3) := by decide +kernel
theorem dX5_pollsAt_38 : decode cX5_pollsAt 38 = .ok (.iload_n 3, 1) := by decide +kernel
theorem dX5_pollsAt_39 : decode cX5_pollsAt 39 = .ok (.ireturn, 1) := by decide +kernel
theorem dX5_isOnSide_0 : decode cX5_isOnSide 0 = .ok (.iload_n 2, 1) := by decide +kernel
theorem dX5_isOnSide_1 : decode cX5_isOnSide 1 = .ok (.bipush 102, 2) := by decide +kernel
theorem dX5_isOnSide_3 : decode cX5_isOnSide 3 = .ok (.if_icmp .ne 16, 3) := by decide +kernel
theorem dX5_isOnSide_6 : decode cX5_isOnSide 6 = .ok (.iload_n 0, 1) := by decide +kernel
theorem dX5_isOnSide_7 : decode cX5_isOnSide 7 = .ok (.iload_n 1, 1) := by decide +kernel
theorem dX5_isOnSide_8 : decode cX5_isOnSide 8 = .ok (.if_icmp .gt 7, 3) := by decide +kernel
theorem dX5_isOnSide_11 : decode cX5_isOnSide 11 = .ok (.iconst 1, 1) := by decide +kernel
theorem dX5_isOnSide_12 : decode cX5_isOnSide 12 = .ok (.goto 55, 3) := by decide +kernel
theorem dX5_isOnSide_15 : decode cX5_isOnSide 15 = .ok (.iconst 0, 1) := by decide +kernel
theorem dX5_isOnSide_16 : decode cX5_isOnSide 16 = .ok (.goto 51, 3) := by decide +kernel
theorem dX5_isOnSide_19 : decode cX5_isOnSide 19 = .ok (.iload_n 2, 1) := by decide +kernel
theorem dX5_isOnSide_20 : decode cX5_isOnSide 20 = .ok (.bipush 99, 2) := by decide +kernel
theorem dX5_isOnSide_22 : decode cX5_isOnSide 22 = .ok (.if_icmp .ne 16, 3) := by decide +kernel
theorem dX5_isOnSide_25 : decode cX5_isOnSide 25 = .ok (.iload_n 0, 1) := by decide +kernel
theorem dX5_isOnSide_26 : decode cX5_isOnSide 26 = .ok (.iload_n 1, 1) := by decide +kernel
theorem dX5_isOnSide_27 : decode cX5_isOnSide 27 = .ok (.if_icmp .lt 7, 3) := by decide +kernel
theorem dX5_isOnSide_30 : decode cX5_isOnSide 30 = .ok (.iconst 1, 1) := by decide +kernel
theorem dX5_isOnSide_31 : decode cX5_isOnSide 31 = .ok (.goto 36, 3) := by decide +kernel
theorem dX5_isOnSide_34 : decode cX5_isOnSide 34 = .ok (.iconst 0, 1) := by decide +kernel
theorem dX5_isOnSide_35 : decode cX5_isOnSide 35 = .ok (.goto 32, 3) := by decide +kernel
theorem dX5_isOnSide_38 : decode cX5_isOnSide 38 = .ok (.iload_n 2, 1) := by decide +kernel
theorem dX5_isOnSide_39 : decode cX5_isOnSide 39 = .ok (.bipush 104, 2) := by decide +kernel
theorem dX5_isOnSide_41 : decode cX5_isOnSide 41 = .ok (.if_icmp .ne 16, 3) := by decide +kernel
theorem dX5_isOnSide_44 : decode cX5_isOnSide 44 = .ok (.iload_n 0, 1) := by decide +kernel
theorem dX5_isOnSide_45 : decode cX5_isOnSide 45 = .ok (.iload_n 1, 1) := by decide +kernel
theorem dX5_isOnSide_46 : decode cX5_isOnSide 46 = .ok (.if_icmp .le 7, 3) := by decide +kernel
theorem dX5_isOnSide_49 : decode cX5_isOnSide 49 = .ok (.iconst 1, 1) := by decide +kernel
theorem dX5_isOnSide_50 : decode cX5_isOnSide 50 = .ok (.goto 17, 3) := by decide +kernel
theorem dX5_isOnSide_53 : decode cX5_isOnSide 53 = .ok (.iconst 0, 1) := by decide +kernel
theorem dX5_isOnSide_54 : decode cX5_isOnSide 54 = .ok (.goto 13, 3) := by decide +kernel
theorem dX5_isOnSide_57 : decode cX5_isOnSide 57 = .ok (.iload_n 0, 1) := by decide +kernel
theorem dX5_isOnSide_58 : decode cX5_isOnSide 58 = .ok (.iload_n 1, 1) := by decide +kernel
theorem dX5_isOnSide_59 : decode cX5_isOnSide 59 = .ok (.if_icmp .ge 7, 3) := by decide +kernel
theorem dX5_isOnSide_62 : decode cX5_isOnSide 62 = .ok (.iconst 1, 1) := by decide +kernel
theorem dX5_isOnSide_63 : decode cX5_isOnSide 63 = .ok (.goto 4, 3) := by decide +kernel
theorem dX5_isOnSide_66 : decode cX5_isOnSide 66 = .ok (.iconst 0, 1) := by decide +kernel
theorem dX5_isOnSide_67 : decode cX5_isOnSide 67 = .ok (.ireturn, 1) := by decide +kernel
theorem dX5_nearAt_0 : decode cX5_nearAt 0 = .ok (.iconst (-1), 1) := by decide +kernel
theorem dX5_nearAt_1 : decode cX5_nearAt 1 = .ok (.istore 6, 2) := by decide +kernel
theorem dX5_nearAt_3 : decode cX5_nearAt 3 = .ok (.iload_n 2, 1) := by decide +kernel
theorem dX5_nearAt_4 : decode cX5_nearAt 4 = .ok (.istore 7, 2) := by decide +kernel
theorem dX5_nearAt_6 : decode cX5_nearAt 6 = .ok (.iload 7, 2) := by decide +kernel
theorem dX5_nearAt_8 : decode cX5_nearAt 8 = .ok (.iload_n 3, 1) := by decide +kernel
theorem dX5_nearAt_9 : decode cX5_nearAt 9 = .ok (.if_icmp .ge 63, 3) := by decide +kernel
theorem dX5_nearAt_12 : decode cX5_nearAt 12 = .ok (.aload_n 0, 1) := by decide +kernel
theorem dX5_nearAt_13 : decode cX5_nearAt 13 = .ok (.getfield 7, 3) := by decide +kernel
theorem dX5_nearAt_16 : decode cX5_nearAt 16 = .ok (.bipush 60, 2) := by decide +kernel
theorem dX5_nearAt_18 : decode cX5_nearAt 18 = .ok (.iload_n 1, 1) := by decide +kernel
theorem dX5_nearAt_19 : decode cX5_nearAt 19 = .ok (.imul, 1) := by decide +kernel
theorem dX5_nearAt_20 : decode cX5_nearAt 20 = .ok (.iload 7, 2) := by decide +kernel
theorem dX5_nearAt_22 : decode cX5_nearAt 22 = .ok (.iadd, 1) := by decide +kernel
theorem dX5_nearAt_23 : decode cX5_nearAt 23 = .ok (.iaload, 1) := by decide +kernel
theorem dX5_nearAt_24 : decode cX5_nearAt 24 = .ok (.iload 4, 2) := by decide +kernel
theorem dX5_nearAt_26 : decode cX5_nearAt 26 = .ok (.iload 5, 2) := by decide +kernel
theorem dX5_nearAt_28 : decode cX5_nearAt 28 = .ok (.invokestatic 83, 3) := by decide +kernel
theorem dX5_nearAt_31 : decode cX5_nearAt 31 = .ok (.istore 8, 2) := by decide +kernel
theorem dX5_nearAt_33 : decode cX5_nearAt 33 = .ok (.iload 8, 2) := by decide +kernel
theorem dX5_nearAt_35 : decode cX5_nearAt 35 = .ok (.ifCond .eq 27, 3) := by decide +kernel
theorem dX5_nearAt_38 : decode cX5_nearAt 38 = .ok (.iload 6, 2) := by decide +kernel
theorem dX5_nearAt_40 : decode cX5_nearAt 40 = .ok (.ifCond .lt 17, 3) := by decide +kernel
theorem dX5_nearAt_43 : decode cX5_nearAt 43 = .ok (.iload 5, 2) := by decide +kernel
theorem dX5_nearAt_45 : decode cX5_nearAt 45 = .ok (.bipush 102, 2) := by decide +kernel
theorem dX5_nearAt_47 : decode cX5_nearAt 47 = .ok (.if_icmp .eq 10, 3) := by decide +kernel
theorem dX5_nearAt_50 : decode cX5_nearAt 50 = .ok (.iload 5, 2) := by decide +kernel
theorem dX5_nearAt_52 : decode cX5_nearAt 52 = .ok (.bipush 108, 2) := by decide +kernel
theorem dX5_nearAt_54 : decode cX5_nearAt 54 = .ok (.if_icmp .ne 8, 3) := by decide +kernel
theorem dX5_nearAt_57 : decode cX5_nearAt 57 = .ok (.iload 7, 2) := by decide +kernel
theorem dX5_nearAt_59 : decode cX5_nearAt 59 = .ok (.goto 5, 3) := by decide +kernel
theorem dX5_nearAt_62 : decode cX5_nearAt 62 = .ok (.iload 6, 2) := by decide +kernel
theorem dX5_nearAt_64 : decode cX5_nearAt 64 = .ok (.istore 6, 2) := by decide +kernel
theorem dX5_nearAt_66 : decode cX5_nearAt 66 = .ok (.iinc 7 1, 3) := by decide +kernel
theorem dX5_nearAt_69 : decode cX5_nearAt 69 = .ok (.goto (-63), 3) := by decide +kernel
theorem dX5_nearAt_72 : decode cX5_nearAt 72 = .ok (.iload 6, 2) := by decide +kernel
theorem dX5_nearAt_74 : decode cX5_nearAt 74 = .ok (.ireturn, 1) := by decide +kernel
theorem dX5_put_0 : decode cX5_put 0 = .ok (.aload_n 0, 1) := by decide +kernel
theorem dX5_put_1 : decode cX5_put 1 = .ok (.iload_n 1, 1) := by decide +kernel
theorem dX5_put_2 : decode cX5_put 2 = .ok (.invokestatic 87, 3) := by decide +kernel
theorem dX5_put_5 : decode cX5_put 5 = .ok (.ifCond .ne 7, 3) := by decide +kernel
theorem dX5_put_8 : decode cX5_put 8 = .ok (.iconst 1, 1) := by decide +kernel
theorem dX5_put_9 : decode cX5_put 9 = .ok (.goto 28, 3) := by decide +kernel
theorem dX5_put_12 : decode cX5_put 12 = .ok (.aload_n 0, 1) := by decide +kernel
theorem dX5_put_13 : decode cX5_put 13 = .ok (.getfield 16, 3) := by decide +kernel
theorem dX5_put_16 : decode cX5_put 16 = .ok (.iload_n 1, 1) := by decide +kernel
theorem dX5_put_17 : decode cX5_put 17 = .ok (.iaload, 1) := by decide +kernel
theorem dX5_put_18 : decode cX5_put 18 = .ok (.bipush 60, 2) := by decide +kernel
theorem dX5_put_20 : decode cX5_put 20 = .ok (.if_icmp .ne 16, 3) := by decide +kernel
theorem dX5_put_23 : decode cX5_put 23 = .ok (.aload_n 0, 1) := by decide +kernel
theorem dX5_put_24 : decode cX5_put 24 = .ok (.iload_n 1, 1) := by decide +kernel
theorem dX5_put_25 : decode cX5_put 25 = .ok (.iload_n 2, 1) := by decide +kernel
theorem dX5_put_26 : decode cX5_put 26 = .ok (.invokevirtual 91, 3) := by decide +kernel
theorem dX5_put_29 : decode cX5_put 29 = .ok (.ifCond .ne 7, 3) := by decide +kernel
theorem dX5_put_32 : decode cX5_put 32 = .ok (.iconst 2, 1) := by decide +kernel
theorem dX5_put_33 : decode cX5_put 33 = .ok (.goto 4, 3) := by decide +kernel
theorem dX5_put_36 : decode cX5_put 36 = .ok (.iconst 0, 1) := by decide +kernel
theorem dX5_put_37 : decode cX5_put 37 = .ok (.invokevirtual 95, 3) := by decide +kernel
theorem dX5_put_40 : decode cX5_put 40 = .ok (.ifCond .eq 5, 3) := by decide +kernel
theorem dX5_put_43 : decode cX5_put 43 = .ok (.iconst 0, 1) := by decide +kernel
theorem dX5_put_44 : decode cX5_put 44 = .ok (.ireturn, 1) := by decide +kernel
theorem dX5_put_45 : decode cX5_put 45 = .ok (.aload_n 0, 1) := by decide +kernel
theorem dX5_put_46 : decode cX5_put 46 = .ok (.iload_n 1, 1) := by decide +kernel
theorem dX5_put_47 : decode cX5_put 47 = .ok (.iload_n 2, 1) := by decide +kernel
theorem dX5_put_48 : decode cX5_put 48 = .ok (.iload_n 3, 1) := by decide +kernel
theorem dX5_put_49 : decode cX5_put 49 = .ok (.invokevirtual 98, 3) := by decide +kernel
theorem dX5_put_52 : decode cX5_put 52 = .ok (.aload_n 0, 1) := by decide +kernel
theorem dX5_put_53 : decode cX5_put 53 = .ok (.getfield 16, 3) := by decide +kernel
theorem dX5_put_56 : decode cX5_put 56 = .ok (.iload_n 1, 1) := by decide +kernel
theorem dX5_put_57 : decode cX5_put 57 = .ok (.iaload, 1) := by decide +kernel
theorem dX5_put_58 : decode cX5_put 58 = .ok (.ireturn, 1) := by decide +kernel
theorem dX5_value_0 : decode cX5_value 0 = .ok (.aload_n 0, 1) := by decide +kernel
theorem dX5_value_1 : decode cX5_value 1 = .ok (.iload_n 1, 1) := by decide +kernel
theorem dX5_value_2 : decode cX5_value 2 = .ok (.invokestatic 87, 3) := by decide +kernel
theorem dX5_value_5 : decode cX5_value 5 = .ok (.ifCond .ne 7, 3) := by decide +kernel
theorem dX5_value_8 : decode cX5_value 8 = .ok (.iconst 1, 1) := by decide +kernel
theorem dX5_value_9 : decode cX5_value 9 = .ok (.goto 17, 3) := by decide +kernel
theorem dX5_value_12 : decode cX5_value 12 = .ok (.aload_n 0, 1) := by decide +kernel
theorem dX5_value_13 : decode cX5_value 13 = .ok (.iload_n 1, 1) := by decide +kernel
theorem dX5_value_14 : decode cX5_value 14 = .ok (.iload_n 2, 1) := by decide +kernel
theorem dX5_value_15 : decode cX5_value 15 = .ok (.invokevirtual 91, 3) := by decide +kernel
theorem dX5_value_18 : decode cX5_value 18 = .ok (.ifCond .ne 7, 3) := by decide +kernel
theorem dX5_value_21 : decode cX5_value 21 = .ok (.iconst 2, 1) := by decide +kernel
theorem dX5_value_22 : decode cX5_value 22 = .ok (.goto 4, 3) := by decide +kernel
theorem dX5_value_25 : decode cX5_value 25 = .ok (.iconst 0, 1) := by decide +kernel
theorem dX5_value_26 : decode cX5_value 26 = .ok (.invokevirtual 95, 3) := by decide +kernel
theorem dX5_value_29 : decode cX5_value 29 = .ok (.ifCond .eq 5, 3) := by decide +kernel
theorem dX5_value_32 : decode cX5_value 32 = .ok (.iconst 0, 1) := by decide +kernel
theorem dX5_value_33 : decode cX5_value 33 = .ok (.ireturn, 1) := by decide +kernel
theorem dX5_value_34 : decode cX5_value 34 = .ok (.aload_n 0, 1) := by decide +kernel
theorem dX5_value_35 : decode cX5_value 35 = .ok (.getfield 13, 3) := by decide +kernel
theorem dX5_value_38 : decode cX5_value 38 = .ok (.bipush 60, 2) := by decide +kernel
theorem dX5_value_40 : decode cX5_value 40 = .ok (.iload_n 1, 1) := by decide +kernel
theorem dX5_value_41 : decode cX5_value 41 = .ok (.imul, 1) := by decide +kernel
theorem dX5_value_42 : decode cX5_value 42 = .ok (.aload_n 0, 1) := by decide +kernel
theorem dX5_value_43 : decode cX5_value 43 = .ok (.iload_n 1, 1) := by decide +kernel
theorem dX5_value_44 : decode cX5_value 44 = .ok (.iload_n 2, 1) := by decide +kernel
theorem dX5_value_45 : decode cX5_value 45 = .ok (.invokevirtual 68, 3) := by decide +kernel
theorem dX5_value_48 : decode cX5_value 48 = .ok (.iadd, 1) := by decide +kernel
theorem dX5_value_49 : decode cX5_value 49 = .ok (.iaload, 1) := by decide +kernel
theorem dX5_value_50 : decode cX5_value 50 = .ok (.ireturn, 1) := by decide +kernel
theorem dX5_remove_0 : decode cX5_remove 0 = .ok (.aload_n 0, 1) := by decide +kernel
theorem dX5_remove_1 : decode cX5_remove 1 = .ok (.iload_n 1, 1) := by decide +kernel
theorem dX5_remove_2 : decode cX5_remove 2 = .ok (.invokestatic 87, 3) := by decide +kernel
theorem dX5_remove_5 : decode cX5_remove 5 = .ok (.ifCond .ne 7, 3) := by decide +kernel
theorem dX5_remove_8 : decode cX5_remove 8 = .ok (.iconst 1, 1) := by decide +kernel
theorem dX5_remove_9 : decode cX5_remove 9 = .ok (.goto 4, 3) := by decide +kernel
theorem dX5_remove_12 : decode cX5_remove 12 = .ok (.iconst 0, 1) := by decide +kernel
theorem dX5_remove_13 : decode cX5_remove 13 = .ok (.invokevirtual 95, 3) := by decide +kernel
theorem dX5_remove_16 : decode cX5_remove 16 = .ok (.ifCond .eq 5, 3) := by decide +kernel
theorem dX5_remove_19 : decode cX5_remove 19 = .ok (.iconst 0, 1) := by decide +kernel
theorem dX5_remove_20 : decode cX5_remove 20 = .ok (.ireturn, 1) := by decide +kernel
theorem dX5_remove_21 : decode cX5_remove 21 = .ok (.aload_n 0, 1) := by decide +kernel
theorem dX5_remove_22 : decode cX5_remove 22 = .ok (.iload_n 1, 1) := by decide +kernel
theorem dX5_remove_23 : decode cX5_remove 23 = .ok (.iload_n 2, 1) := by decide +kernel
theorem dX5_remove_24 : decode cX5_remove 24 = .ok (.invokevirtual 91, 3) := by decide +kernel
theorem dX5_remove_27 : decode cX5_remove 27 = .ok (.ifCond .eq 14, 3) := by decide +kernel
theorem dX5_remove_30 : decode cX5_remove 30 = .ok (.aload_n 0, 1) := by decide +kernel
theorem dX5_remove_31 : decode cX5_remove 31 = .ok (.iload_n 1, 1) := by decide +kernel
theorem dX5_remove_32 : decode cX5_remove 32 = .ok (.aload_n 0, 1) := by decide +kernel
theorem dX5_remove_33 : decode cX5_remove 33 = .ok (.iload_n 1, 1) := by decide +kernel
theorem dX5_remove_34 : decode cX5_remove 34 = .ok (.iload_n 2, 1) := by decide +kernel
theorem dX5_remove_35 : decode cX5_remove 35 = .ok (.invokevirtual 68, 3) := by decide +kernel
theorem dX5_remove_38 : decode cX5_remove 38 = .ok (.invokevirtual 79, 3) := by decide +kernel
theorem dX5_remove_41 : decode cX5_remove 41 = .ok (.aload_n 0, 1) := by decide +kernel
theorem dX5_remove_42 : decode cX5_remove 42 = .ok (.getfield 16, 3) := by decide +kernel
theorem dX5_remove_45 : decode cX5_remove 45 = .ok (.iload_n 1, 1) := by decide +kernel
theorem dX5_remove_46 : decode cX5_remove 46 = .ok (.iaload, 1) := by decide +kernel
theorem dX5_remove_47 : decode cX5_remove 47 = .ok (.ireturn, 1) := by decide +kernel
theorem dX5_near_0 : decode cX5_near 0 = .ok (.aload_n 0, 1) := by decide +kernel
theorem dX5_near_1 : decode cX5_near 1 = .ok (.iload_n 1, 1) := by decide +kernel
theorem dX5_near_2 : decode cX5_near 2 = .ok (.invokestatic 87, 3) := by decide +kernel
theorem dX5_near_5 : decode cX5_near 5 = .ok (.ifCond .ne 7, 3) := by decide +kernel
theorem dX5_near_8 : decode cX5_near 8 = .ok (.iconst 1, 1) := by decide +kernel
theorem dX5_near_9 : decode cX5_near 9 = .ok (.goto 36, 3) := by decide +kernel
theorem dX5_near_12 : decode cX5_near 12 = .ok (.iload_n 3, 1) := by decide +kernel
theorem dX5_near_13 : decode cX5_near 13 = .ok (.invokestatic 102, 3) := by decide +kernel
theorem dX5_near_16 : decode cX5_near 16 = .ok (.ifCond .ne 7, 3) := by decide +kernel
theorem dX5_near_19 : decode cX5_near 19 = .ok (.iconst 2, 1) := by decide +kernel
theorem dX5_near_20 : decode cX5_near 20 = .ok (.goto 25, 3) := by decide +kernel
theorem dX5_near_23 : decode cX5_near 23 = .ok (.aload_n 0, 1) := by decide +kernel
theorem dX5_near_24 : decode cX5_near 24 = .ok (.iload_n 1, 1) := by decide +kernel
theorem dX5_near_25 : decode cX5_near 25 = .ok (.iconst 0, 1) := by decide +kernel
theorem dX5_near_26 : decode cX5_near 26 = .ok (.aload_n 0, 1) := by decide +kernel
theorem dX5_near_27 : decode cX5_near 27 = .ok (.getfield 16, 3) := by decide +kernel
theorem dX5_near_30 : decode cX5_near 30 = .ok (.iload_n 1, 1) := by decide +kernel
theorem dX5_near_31 : decode cX5_near 31 = .ok (.iaload, 1) := by decide +kernel
theorem dX5_near_32 : decode cX5_near 32 = .ok (.iload_n 2, 1) := by decide +kernel
theorem dX5_near_33 : decode cX5_near 33 = .ok (.iload_n 3, 1) := by decide +kernel
theorem dX5_near_34 : decode cX5_near 34 = .ok (.invokevirtual 106, 3) := by decide +kernel
theorem dX5_near_37 : decode cX5_near 37 = .ok (.ifCond .ge 7, 3) := by decide +kernel
theorem dX5_near_40 : decode cX5_near 40 = .ok (.iconst 3, 1) := by decide +kernel
theorem dX5_near_41 : decode cX5_near 41 = .ok (.goto 4, 3) := by decide +kernel
theorem dX5_near_44 : decode cX5_near 44 = .ok (.iconst 0, 1) := by decide +kernel
theorem dX5_near_45 : decode cX5_near 45 = .ok (.invokevirtual 95, 3) := by decide +kernel
theorem dX5_near_48 : decode cX5_near 48 = .ok (.ifCond .eq 5, 3) := by decide +kernel
theorem dX5_near_51 : decode cX5_near 51 = .ok (.iconst 0, 1) := by decide +kernel
theorem dX5_near_52 : decode cX5_near 52 = .ok (.ireturn, 1) := by decide +kernel
theorem dX5_near_53 : decode cX5_near 53 = .ok (.aload_n 0, 1) := by decide +kernel
theorem dX5_near_54 : decode cX5_near 54 = .ok (.getfield 7, 3) := by decide +kernel
theorem dX5_near_57 : decode cX5_near 57 = .ok (.bipush 60, 2) := by decide +kernel
theorem dX5_near_59 : decode cX5_near 59 = .ok (.iload_n 1, 1) := by decide +kernel
theorem dX5_near_60 : decode cX5_near 60 = .ok (.imul, 1) := by decide +kernel
theorem dX5_near_61 : decode cX5_near 61 = .ok (.aload_n 0, 1) := by decide +kernel
theorem dX5_near_62 : decode cX5_near 62 = .ok (.iload_n 1, 1) := by decide +kernel
theorem dX5_near_63 : decode cX5_near 63 = .ok (.iconst 0, 1) := by decide +kernel
theorem dX5_near_64 : decode cX5_near 64 = .ok (.aload_n 0, 1) := by decide +kernel
theorem dX5_near_65 : decode cX5_near 65 = .ok (.getfield 16, 3) := by decide +kernel
theorem dX5_near_68 : decode cX5_near 68 = .ok (.iload_n 1, 1) := by decide +kernel
theorem dX5_near_69 : decode cX5_near 69 = .ok (.iaload, 1) := by decide +kernel
theorem dX5_near_70 : decode cX5_near 70 = .ok (.iload_n 2, 1) := by decide +kernel
theorem dX5_near_71 : decode cX5_near 71 = .ok (.iload_n 3, 1) := by decide +kernel
theorem dX5_near_72 : decode cX5_near 72 = .ok (.invokevirtual 106, 3) := by decide +kernel
theorem dX5_near_75 : decode cX5_near 75 = .ok (.iadd, 1) := by decide +kernel
theorem dX5_near_76 : decode cX5_near 76 = .ok (.iaload, 1) := by decide +kernel
theorem dX5_near_77 : decode cX5_near 77 = .ok (.ireturn, 1) := by decide +kernel
theorem dX5_end_0 : decode cX5_end 0 = .ok (.aload_n 0, 1) := by decide +kernel
theorem dX5_end_1 : decode cX5_end 1 = .ok (.iload_n 1, 1) := by decide +kernel
theorem dX5_end_2 : decode cX5_end 2 = .ok (.invokestatic 87, 3) := by decide +kernel
theorem dX5_end_5 : decode cX5_end 5 = .ok (.ifCond .ne 7, 3) := by decide +kernel
theorem dX5_end_8 : decode cX5_end 8 = .ok (.iconst 1, 1) := by decide +kernel
theorem dX5_end_9 : decode cX5_end 9 = .ok (.goto 17, 3) := by decide +kernel
theorem dX5_end_12 : decode cX5_end 12 = .ok (.aload_n 0, 1) := by decide +kernel
theorem dX5_end_13 : decode cX5_end 13 = .ok (.getfield 16, 3) := by decide +kernel
theorem dX5_end_16 : decode cX5_end 16 = .ok (.iload_n 1, 1) := by decide +kernel
theorem dX5_end_17 : decode cX5_end 17 = .ok (.iaload, 1) := by decide +kernel
theorem dX5_end_18 : decode cX5_end 18 = .ok (.ifCond .ne 7, 3) := by decide +kernel
theorem dX5_end_21 : decode cX5_end 21 = .ok (.iconst 2, 1) := by decide +kernel
theorem dX5_end_22 : decode cX5_end 22 = .ok (.goto 4, 3) := by decide +kernel
theorem dX5_end_25 : decode cX5_end 25 = .ok (.iconst 0, 1) := by decide +kernel
theorem dX5_end_26 : decode cX5_end 26 = .ok (.invokevirtual 95, 3) := by decide +kernel
theorem dX5_end_29 : decode cX5_end 29 = .ok (.ifCond .eq 5, 3) := by decide +kernel
theorem dX5_end_32 : decode cX5_end 32 = .ok (.iconst 0, 1) := by decide +kernel
theorem dX5_end_33 : decode cX5_end 33 = .ok (.ireturn, 1) := by decide +kernel
theorem dX5_end_34 : decode cX5_end 34 = .ok (.aload_n 0, 1) := by decide +kernel
theorem dX5_end_35 : decode cX5_end 35 = .ok (.getfield 7, 3) := by decide +kernel
theorem dX5_end_38 : decode cX5_end 38 = .ok (.bipush 60, 2) := by decide +kernel
theorem dX5_end_40 : decode cX5_end 40 = .ok (.iload_n 1, 1) := by decide +kernel
theorem dX5_end_41 : decode cX5_end 41 = .ok (.imul, 1) := by decide +kernel
theorem dX5_end_42 : decode cX5_end 42 = .ok (.iload_n 2, 1) := by decide +kernel
theorem dX5_end_43 : decode cX5_end 43 = .ok (.ifCond .eq 14, 3) := by decide +kernel
theorem dX5_end_46 : decode cX5_end 46 = .ok (.aload_n 0, 1) := by decide +kernel
theorem dX5_end_47 : decode cX5_end 47 = .ok (.getfield 16, 3) := by decide +kernel
theorem dX5_end_50 : decode cX5_end 50 = .ok (.iload_n 1, 1) := by decide +kernel
theorem dX5_end_51 : decode cX5_end 51 = .ok (.iaload, 1) := by decide +kernel
theorem dX5_end_52 : decode cX5_end 52 = .ok (.iconst 1, 1) := by decide +kernel
theorem dX5_end_53 : decode cX5_end 53 = .ok (.isub, 1) := by decide +kernel
theorem dX5_end_54 : decode cX5_end 54 = .ok (.goto 4, 3) := by decide +kernel
theorem dX5_end_57 : decode cX5_end 57 = .ok (.iconst 0, 1) := by decide +kernel
theorem dX5_end_58 : decode cX5_end 58 = .ok (.iadd, 1) := by decide +kernel
theorem dX5_end_59 : decode cX5_end 59 = .ok (.iaload, 1) := by decide +kernel
theorem dX5_end_60 : decode cX5_end 60 = .ok (.ireturn, 1) := by decide +kernel
theorem dX5_poll_0 : decode cX5_poll 0 = .ok (.aload_n 0, 1) := by decide +kernel
theorem dX5_poll_1 : decode cX5_poll 1 = .ok (.iload_n 1, 1) := by decide +kernel
theorem dX5_poll_2 : decode cX5_poll 2 = .ok (.invokestatic 87, 3) := by decide +kernel
theorem dX5_poll_5 : decode cX5_poll 5 = .ok (.ifCond .ne 7, 3) := by decide +kernel
theorem dX5_poll_8 : decode cX5_poll 8 = .ok (.iconst 1, 1) := by decide +kernel
theorem dX5_poll_9 : decode cX5_poll 9 = .ok (.goto 17, 3) := by decide +kernel
theorem dX5_poll_12 : decode cX5_poll 12 = .ok (.aload_n 0, 1) := by decide +kernel
theorem dX5_poll_13 : decode cX5_poll 13 = .ok (.getfield 16, 3) := by decide +kernel
theorem dX5_poll_16 : decode cX5_poll 16 = .ok (.iload_n 1, 1) := by decide +kernel
theorem dX5_poll_17 : decode cX5_poll 17 = .ok (.iaload, 1) := by decide +kernel
theorem dX5_poll_18 : decode cX5_poll 18 = .ok (.ifCond .ne 7, 3) := by decide +kernel
theorem dX5_poll_21 : decode cX5_poll 21 = .ok (.iconst 2, 1) := by decide +kernel
theorem dX5_poll_22 : decode cX5_poll 22 = .ok (.goto 4, 3) := by decide +kernel
theorem dX5_poll_25 : decode cX5_poll 25 = .ok (.iconst 0, 1) := by decide +kernel
theorem dX5_poll_26 : decode cX5_poll 26 = .ok (.invokevirtual 95, 3) := by decide +kernel
theorem dX5_poll_29 : decode cX5_poll 29 = .ok (.ifCond .eq 5, 3) := by decide +kernel
theorem dX5_poll_32 : decode cX5_poll 32 = .ok (.iconst 0, 1) := by decide +kernel
theorem dX5_poll_33 : decode cX5_poll 33 = .ok (.ireturn, 1) := by decide +kernel
theorem dX5_poll_34 : decode cX5_poll 34 = .ok (.aload_n 0, 1) := by decide +kernel
theorem dX5_poll_35 : decode cX5_poll 35 = .ok (.iload_n 1, 1) := by decide +kernel
theorem dX5_poll_36 : decode cX5_poll 36 = .ok (.iload_n 2, 1) := by decide +kernel
theorem dX5_poll_37 : decode cX5_poll 37 = .ok (.ifCond .eq 14, 3) := by decide +kernel
theorem dX5_poll_40 : decode cX5_poll 40 = .ok (.aload_n 0, 1) := by decide +kernel
theorem dX5_poll_41 : decode cX5_poll 41 = .ok (.getfield 16, 3) := by decide +kernel
theorem dX5_poll_44 : decode cX5_poll 44 = .ok (.iload_n 1, 1) := by decide +kernel
theorem dX5_poll_45 : decode cX5_poll 45 = .ok (.iaload, 1) := by decide +kernel
theorem dX5_poll_46 : decode cX5_poll 46 = .ok (.iconst 1, 1) := by decide +kernel
theorem dX5_poll_47 : decode cX5_poll 47 = .ok (.isub, 1) := by decide +kernel
theorem dX5_poll_48 : decode cX5_poll 48 = .ok (.goto 4, 3) := by decide +kernel
theorem dX5_poll_51 : decode cX5_poll 51 = .ok (.iconst 0, 1) := by decide +kernel
theorem dX5_poll_52 : decode cX5_poll 52 = .ok (.invokevirtual 110, 3) := by decide +kernel
theorem dX5_poll_55 : decode cX5_poll 55 = .ok (.ireturn, 1) := by decide +kernel
theorem dX5_polled_0 : decode cX5_polled 0 = .ok (.aload_n 0, 1) := by decide +kernel
theorem dX5_polled_1 : decode cX5_polled 1 = .ok (.aload_n 0, 1) := by decide +kernel
theorem dX5_polled_2 : decode cX5_polled 2 = .ok (.getfield 72, 3) := by decide +kernel
theorem dX5_polled_5 : decode cX5_polled 5 = .ok (.ifCond .ne 7, 3) := by decide +kernel
theorem dX5_polled_8 : decode cX5_polled 8 = .ok (.iconst 1, 1) := by decide +kernel
theorem dX5_polled_9 : decode cX5_polled 9 = .ok (.goto 4, 3) := by decide +kernel
theorem dX5_polled_12 : decode cX5_polled 12 = .ok (.iconst 0, 1) := by decide +kernel
theorem dX5_polled_13 : decode cX5_polled 13 = .ok (.invokevirtual 95, 3) := by decide +kernel
theorem dX5_polled_16 : decode cX5_polled 16 = .ok (.ifCond .eq 7, 3) := by decide +kernel
theorem dX5_polled_19 : decode cX5_polled 19 = .ok (.iconst 0, 1) := by decide +kernel
theorem dX5_polled_20 : decode cX5_polled 20 = .ok (.goto 7, 3) := by decide +kernel
theorem dX5_polled_23 : decode cX5_polled 23 = .ok (.aload_n 0, 1) := by decide +kernel
theorem dX5_polled_24 : decode cX5_polled 24 = .ok (.getfield 76, 3) := by decide +kernel
theorem dX5_polled_27 : decode cX5_polled 27 = .ok (.ireturn, 1) := by decide +kernel
theorem dX5_drain_0 : decode cX5_drain 0 = .ok (.aload_n 0, 1) := by decide +kernel
theorem dX5_drain_1 : decode cX5_drain 1 = .ok (.iload_n 1, 1) := by decide +kernel
theorem dX5_drain_2 : decode cX5_drain 2 = .ok (.invokestatic 87, 3) := by decide +kernel
theorem dX5_drain_5 : decode cX5_drain 5 = .ok (.ifCond .ne 7, 3) := by decide +kernel
theorem dX5_drain_8 : decode cX5_drain 8 = .ok (.iconst 1, 1) := by decide +kernel
theorem dX5_drain_9 : decode cX5_drain 9 = .ok (.goto 4, 3) := by decide +kernel
theorem dX5_drain_12 : decode cX5_drain 12 = .ok (.iconst 0, 1) := by decide +kernel
theorem dX5_drain_13 : decode cX5_drain 13 = .ok (.invokevirtual 95, 3) := by decide +kernel
theorem dX5_drain_16 : decode cX5_drain 16 = .ok (.ifCond .eq 5, 3) := by decide +kernel
theorem dX5_drain_19 : decode cX5_drain 19 = .ok (.iconst 0, 1) := by decide +kernel
theorem dX5_drain_20 : decode cX5_drain 20 = .ok (.ireturn, 1) := by decide +kernel
theorem dX5_drain_21 : decode cX5_drain 21 = .ok (.aload_n 0, 1) := by decide +kernel
theorem dX5_drain_22 : decode cX5_drain 22 = .ok (.iconst 0, 1) := by decide +kernel
theorem dX5_drain_23 : decode cX5_drain 23 = .ok (.putfield 113, 3) := by decide +kernel
theorem dX5_drain_26 : decode cX5_drain 26 = .ok (.aload_n 0, 1) := by decide +kernel
theorem dX5_drain_27 : decode cX5_drain 27 = .ok (.getfield 16, 3) := by decide +kernel
theorem dX5_drain_30 : decode cX5_drain 30 = .ok (.iload_n 1, 1) := by decide +kernel
theorem dX5_drain_31 : decode cX5_drain 31 = .ok (.iaload, 1) := by decide +kernel
theorem dX5_drain_32 : decode cX5_drain 32 = .ok (.ifCond .le 46, 3) := by decide +kernel
theorem dX5_drain_35 : decode cX5_drain 35 = .ok (.aload_n 0, 1) := by decide +kernel
theorem dX5_drain_36 : decode cX5_drain 36 = .ok (.getfield 57, 3) := by decide +kernel
theorem dX5_drain_39 : decode cX5_drain 39 = .ok (.aload_n 0, 1) := by decide +kernel
theorem dX5_drain_40 : decode cX5_drain 40 = .ok (.getfield 113, 3) := by decide +kernel
theorem dX5_drain_43 : decode cX5_drain 43 = .ok (.aload_n 0, 1) := by decide +kernel
theorem dX5_drain_44 : decode cX5_drain 44 = .ok (.iload_n 1, 1) := by decide +kernel
theorem dX5_drain_45 : decode cX5_drain 45 = .ok (.iload_n 2, 1) := by decide +kernel
theorem dX5_drain_46 : decode cX5_drain 46 = .ok (.ifCond .eq 14, 3) := by decide +kernel
theorem dX5_drain_49 : decode cX5_drain 49 = .ok (.aload_n 0, 1) := by decide +kernel
theorem dX5_drain_50 : decode cX5_drain 50 = .ok (.getfield 16, 3) := by decide +kernel
theorem dX5_drain_53 : decode cX5_drain 53 = .ok (.iload_n 1, 1) := by decide +kernel
theorem dX5_drain_54 : decode cX5_drain 54 = .ok (.iaload, 1) := by decide +kernel
theorem dX5_drain_55 : decode cX5_drain 55 = .ok (.iconst 1, 1) := by decide +kernel
theorem dX5_drain_56 : decode cX5_drain 56 = .ok (.isub, 1) := by decide +kernel
theorem dX5_drain_57 : decode cX5_drain 57 = .ok (.goto 4, 3) := by decide +kernel
theorem dX5_drain_60 : decode cX5_drain 60 = .ok (.iconst 0, 1) := by decide +kernel
theorem dX5_drain_61 : decode cX5_drain 61 = .ok (.invokevirtual 110, 3) := by decide +kernel
theorem dX5_drain_64 : decode cX5_drain 64 = .ok (.iastore, 1) := by decide +kernel
theorem dX5_drain_65 : decode cX5_drain 65 = .ok (.aload_n 0, 1) := by decide +kernel
theorem dX5_drain_66 : decode cX5_drain 66 = .ok (.dup, 1) := by decide +kernel
theorem dX5_drain_67 : decode cX5_drain 67 = .ok (.getfield 113, 3) := by decide +kernel
theorem dX5_drain_70 : decode cX5_drain 70 = .ok (.iconst 1, 1) := by decide +kernel
theorem dX5_drain_71 : decode cX5_drain 71 = .ok (.iadd, 1) := by decide +kernel
theorem dX5_drain_72 : decode cX5_drain 72 = .ok (.putfield 113, 3) := by decide +kernel
theorem dX5_drain_75 : decode cX5_drain 75 = .ok (.goto (-49), 3) := by decide +kernel
theorem dX5_drain_78 : decode cX5_drain 78 = .ok (.aload_n 0, 1) := by decide +kernel
theorem dX5_drain_79 : decode cX5_drain 79 = .ok (.getfield 113, 3) := by decide +kernel
theorem dX5_drain_82 : decode cX5_drain 82 = .ok (.ireturn, 1) := by decide +kernel
theorem dX5_drained_0 : decode cX5_drained 0 = .ok (.aload_n 0, 1) := by decide +kernel
theorem dX5_drained_1 : decode cX5_drained 1 = .ok (.iload_n 1, 1) := by decide +kernel
theorem dX5_drained_2 : decode cX5_drained 2 = .ok (.iconst 0, 1) := by decide +kernel
theorem dX5_drained_3 : decode cX5_drained 3 = .ok (.aload_n 0, 1) := by decide +kernel
theorem dX5_drained_4 : decode cX5_drained 4 = .ok (.getfield 113, 3) := by decide +kernel
theorem dX5_drained_7 : decode cX5_drained 7 = .ok (.iconst 1, 1) := by decide +kernel
theorem dX5_drained_8 : decode cX5_drained 8 = .ok (.isub, 1) := by decide +kernel
theorem dX5_drained_9 : decode cX5_drained 9 = .ok (.invokestatic 64, 3) := by decide +kernel
theorem dX5_drained_12 : decode cX5_drained 12 = .ok (.ifCond .ne 7, 3) := by decide +kernel
theorem dX5_drained_15 : decode cX5_drained 15 = .ok (.iconst 1, 1) := by decide +kernel
theorem dX5_drained_16 : decode cX5_drained 16 = .ok (.goto 4, 3) := by decide +kernel
theorem dX5_drained_19 : decode cX5_drained 19 = .ok (.iconst 0, 1) := by decide +kernel
theorem dX5_drained_20 : decode cX5_drained 20 = .ok (.invokevirtual 95, 3) := by decide +kernel
theorem dX5_drained_23 : decode cX5_drained 23 = .ok (.ifCond .eq 7, 3) := by decide +kernel
theorem dX5_drained_26 : decode cX5_drained 26 = .ok (.iconst 0, 1) := by decide +kernel
theorem dX5_drained_27 : decode cX5_drained 27 = .ok (.goto 9, 3) := by decide +kernel
theorem dX5_drained_30 : decode cX5_drained 30 = .ok (.aload_n 0, 1) := by decide +kernel
theorem dX5_drained_31 : decode cX5_drained 31 = .ok (.getfield 57, 3) := by decide +kernel
theorem dX5_drained_34 : decode cX5_drained 34 = .ok (.iload_n 1, 1) := by decide +kernel
theorem dX5_drained_35 : decode cX5_drained 35 = .ok (.iaload, 1) := by decide +kernel
theorem dX5_drained_36 : decode cX5_drained 36 = .ok (.ireturn, 1) := by decide +kernel
theorem dX5_size_0 : decode cX5_size 0 = .ok (.aload_n 0, 1) := by decide +kernel
theorem dX5_size_1 : decode cX5_size 1 = .ok (.iload_n 1, 1) := by decide +kernel
theorem dX5_size_2 : decode cX5_size 2 = .ok (.invokestatic 87, 3) := by decide +kernel
theorem dX5_size_5 : decode cX5_size 5 = .ok (.ifCond .ne 7, 3) := by decide +kernel
theorem dX5_size_8 : decode cX5_size 8 = .ok (.iconst 1, 1) := by decide +kernel
theorem dX5_size_9 : decode cX5_size 9 = .ok (.goto 4, 3) := by decide +kernel
theorem dX5_size_12 : decode cX5_size 12 = .ok (.iconst 0, 1) := by decide +kernel
theorem dX5_size_13 : decode cX5_size 13 = .ok (.invokevirtual 95, 3) := by decide +kernel
theorem dX5_size_16 : decode cX5_size 16 = .ok (.ifCond .eq 7, 3) := by decide +kernel
theorem dX5_size_19 : decode cX5_size 19 = .ok (.iconst 0, 1) := by decide +kernel
theorem dX5_size_20 : decode cX5_size 20 = .ok (.goto 9, 3) := by decide +kernel
theorem dX5_size_23 : decode cX5_size 23 = .ok (.aload_n 0, 1) := by decide +kernel
theorem dX5_size_24 : decode cX5_size 24 = .ok (.getfield 16, 3) := by decide +kernel
theorem dX5_size_27 : decode cX5_size 27 = .ok (.iload_n 1, 1) := by decide +kernel
theorem dX5_size_28 : decode cX5_size 28 = .ok (.iaload, 1) := by decide +kernel
theorem dX5_size_29 : decode cX5_size 29 = .ok (.ireturn, 1) := by decide +kernel
theorem dX5_keyAt_0 : decode cX5_keyAt 0 = .ok (.aload_n 0, 1) := by decide +kernel
theorem dX5_keyAt_1 : decode cX5_keyAt 1 = .ok (.iload_n 1, 1) := by decide +kernel
theorem dX5_keyAt_2 : decode cX5_keyAt 2 = .ok (.invokestatic 87, 3) := by decide +kernel
theorem dX5_keyAt_5 : decode cX5_keyAt 5 = .ok (.ifCond .eq 19, 3) := by decide +kernel
theorem dX5_keyAt_8 : decode cX5_keyAt 8 = .ok (.iload_n 2, 1) := by decide +kernel
theorem dX5_keyAt_9 : decode cX5_keyAt 9 = .ok (.iconst 0, 1) := by decide +kernel
theorem dX5_keyAt_10 : decode cX5_keyAt 10 = .ok (.aload_n 0, 1) := by decide +kernel
theorem dX5_keyAt_11 : decode cX5_keyAt 11 = .ok (.getfield 16, 3) := by decide +kernel
theorem dX5_keyAt_14 : decode cX5_keyAt 14 = .ok (.iload_n 1, 1) := by decide +kernel
theorem dX5_keyAt_15 : decode cX5_keyAt 15 = .ok (.iaload, 1) := by decide +kernel
theorem dX5_keyAt_16 : decode cX5_keyAt 16 = .ok (.iconst 1, 1) := by decide +kernel
theorem dX5_keyAt_17 : decode cX5_keyAt 17 = .ok (.isub, 1) := by decide +kernel
theorem dX5_keyAt_18 : decode cX5_keyAt 18 = .ok (.invokestatic 64, 3) := by decide +kernel
theorem dX5_keyAt_21 : decode cX5_keyAt 21 = .ok (.ifCond .ne 7, 3) := by decide +kernel
theorem dX5_keyAt_24 : decode cX5_keyAt 24 = .ok (.iconst 1, 1) := by decide +kernel
theorem dX5_keyAt_25 : decode cX5_keyAt 25 = .ok (.goto 4, 3) := by decide +kernel
theorem dX5_keyAt_28 : decode cX5_keyAt 28 = .ok (.iconst 0, 1) := by decide +kernel
theorem dX5_keyAt_29 : decode cX5_keyAt 29 = .ok (.invokevirtual 95, 3) := by decide +kernel
theorem dX5_keyAt_32 : decode cX5_keyAt 32 = .ok (.ifCond .eq 5, 3) := by decide +kernel
theorem dX5_keyAt_35 : decode cX5_keyAt 35 = .ok (.iconst 0, 1) := by decide +kernel
theorem dX5_keyAt_36 : decode cX5_keyAt 36 = .ok (.ireturn, 1) := by decide +kernel
theorem dX5_keyAt_37 : decode cX5_keyAt 37 = .ok (.aload_n 0, 1) := by decide +kernel
theorem dX5_keyAt_38 : decode cX5_keyAt 38 = .ok (.getfield 7, 3) := by decide +kernel
theorem dX5_keyAt_41 : decode cX5_keyAt 41 = .ok (.bipush 60, 2) := by decide +kernel
theorem dX5_keyAt_43 : decode cX5_keyAt 43 = .ok (.iload_n 1, 1) := by decide +kernel
theorem dX5_keyAt_44 : decode cX5_keyAt 44 = .ok (.imul, 1) := by decide +kernel
theorem dX5_keyAt_45 : decode cX5_keyAt 45 = .ok (.iload_n 3, 1) := by decide +kernel
theorem dX5_keyAt_46 : decode cX5_keyAt 46 = .ok (.ifCond .eq 16, 3) := by decide +kernel
theorem dX5_keyAt_49 : decode cX5_keyAt 49 = .ok (.aload_n 0, 1) := by decide +kernel
theorem dX5_keyAt_50 : decode cX5_keyAt 50 = .ok (.getfield 16, 3) := by decide +kernel
theorem dX5_keyAt_53 : decode cX5_keyAt 53 = .ok (.iload_n 1, 1) := by decide +kernel
theorem dX5_keyAt_54 : decode cX5_keyAt 54 = .ok (.iaload, 1) := by decide +kernel
theorem dX5_keyAt_55 : decode cX5_keyAt 55 = .ok (.iconst 1, 1) := by decide +kernel
theorem dX5_keyAt_56 : decode cX5_keyAt 56 = .ok (.isub, 1) := by decide +kernel
theorem dX5_keyAt_57 : decode cX5_keyAt 57 = .ok (.iload_n 2, 1) := by decide +kernel
theorem dX5_keyAt_58 : decode cX5_keyAt 58 = .ok (.isub, 1) := by decide +kernel
theorem dX5_keyAt_59 : decode cX5_keyAt 59 = .ok (.goto 4, 3) := by decide +kernel
theorem dX5_keyAt_62 : decode cX5_keyAt 62 = .ok (.iload_n 2, 1) := by decide +kernel
theorem dX5_keyAt_63 : decode cX5_keyAt 63 = .ok (.iadd, 1) := by decide +kernel
theorem dX5_keyAt_64 : decode cX5_keyAt 64 = .ok (.iaload, 1) := by decide +kernel
theorem dX5_keyAt_65 : decode cX5_keyAt 65 = .ok (.ireturn, 1) := by decide +kernel
theorem dX5_mark_0 : decode cX5_mark 0 = .ok (.aload_n 0, 1) := by decide +kernel
theorem dX5_mark_1 : decode cX5_mark 1 = .ok (.iload_n 1, 1) := by decide +kernel
theorem dX5_mark_2 : decode cX5_mark 2 = .ok (.invokestatic 87, 3) := by decide +kernel
theorem dX5_mark_5 : decode cX5_mark 5 = .ok (.ifCond .ne 7, 3) := by decide +kernel
theorem dX5_mark_8 : decode cX5_mark 8 = .ok (.iconst 1, 1) := by decide +kernel
theorem dX5_mark_9 : decode cX5_mark 9 = .ok (.goto 4, 3) := by decide +kernel
theorem dX5_mark_12 : decode cX5_mark 12 = .ok (.iconst 0, 1) := by decide +kernel
theorem dX5_mark_13 : decode cX5_mark 13 = .ok (.invokevirtual 95, 3) := by decide +kernel
theorem dX5_mark_16 : decode cX5_mark 16 = .ok (.ifCond .eq 5, 3) := by decide +kernel
theorem dX5_mark_19 : decode cX5_mark 19 = .ok (.iconst 0, 1) := by decide +kernel
theorem dX5_mark_20 : decode cX5_mark 20 = .ok (.ireturn, 1) := by decide +kernel
theorem dX5_mark_21 : decode cX5_mark 21 = .ok (.iconst 0, 1) := by decide +kernel
theorem dX5_mark_22 : decode cX5_mark 22 = .ok (.istore_n 2, 1) := by decide +kernel
theorem dX5_mark_23 : decode cX5_mark 23 = .ok (.iconst 0, 1) := by decide +kernel
theorem dX5_mark_24 : decode cX5_mark 24 = .ok (.istore_n 3, 1) := by decide +kernel
theorem dX5_mark_25 : decode cX5_mark 25 = .ok (.iload_n 3, 1) := by decide +kernel
theorem dX5_mark_26 : decode cX5_mark 26 = .ok (.aload_n 0, 1) := by decide +kernel
theorem dX5_mark_27 : decode cX5_mark 27 = .ok (.getfield 16, 3) := by decide +kernel
theorem dX5_mark_30 : decode cX5_mark 30 = .ok (.iload_n 1, 1) := by decide +kernel
theorem dX5_mark_31 : decode cX5_mark 31 = .ok (.iaload, 1) := by decide +kernel
theorem dX5_mark_32 : decode cX5_mark 32 = .ok (.if_icmp .ge 35, 3) := by decide +kernel
theorem dX5_mark_35 : decode cX5_mark 35 = .ok (.iload_n 2, 1) := by decide +kernel
theorem dX5_mark_36 : decode cX5_mark 36 = .ok (.aload_n 0, 1) := by decide +kernel
theorem dX5_mark_37 : decode cX5_mark 37 = .ok (.getfield 7, 3) := by decide +kernel
theorem dX5_mark_40 : decode cX5_mark 40 = .ok (.bipush 60, 2) := by decide +kernel
theorem dX5_mark_42 : decode cX5_mark 42 = .ok (.iload_n 1, 1) := by decide +kernel
theorem dX5_mark_43 : decode cX5_mark 43 = .ok (.imul, 1) := by decide +kernel
theorem dX5_mark_44 : decode cX5_mark 44 = .ok (.iload_n 3, 1) := by decide +kernel
theorem dX5_mark_45 : decode cX5_mark 45 = .ok (.iadd, 1) := by decide +kernel
theorem dX5_mark_46 : decode cX5_mark 46 = .ok (.iaload, 1) := by decide +kernel
theorem dX5_mark_47 : decode cX5_mark 47 = .ok (.aload_n 0, 1) := by decide +kernel
theorem dX5_mark_48 : decode cX5_mark 48 = .ok (.getfield 13, 3) := by decide +kernel
theorem dX5_mark_51 : decode cX5_mark 51 = .ok (.bipush 60, 2) := by decide +kernel
theorem dX5_mark_53 : decode cX5_mark 53 = .ok (.iload_n 1, 1) := by decide +kernel
theorem dX5_mark_54 : decode cX5_mark 54 = .ok (.imul, 1) := by decide +kernel
theorem dX5_mark_55 : decode cX5_mark 55 = .ok (.iload_n 3, 1) := by decide +kernel
theorem dX5_mark_56 : decode cX5_mark 56 = .ok (.iadd, 1) := by decide +kernel
theorem dX5_mark_57 : decode cX5_mark 57 = .ok (.iaload, 1) := by decide +kernel
theorem dX5_mark_58 : decode cX5_mark 58 = .ok (.ixor, 1) := by decide +kernel
theorem dX5_mark_59 : decode cX5_mark 59 = .ok (.iadd, 1) := by decide +kernel
theorem dX5_mark_60 : decode cX5_mark 60 = .ok (.istore_n 2, 1) := by decide +kernel
theorem dX5_mark_61 : decode cX5_mark 61 = .ok (.iinc 3 1, 3) := by decide +kernel
theorem dX5_mark_64 : decode cX5_mark 64 = .ok (.goto (-39), 3) := by decide +kernel
theorem dX5_mark_67 : decode cX5_mark 67 = .ok (.iload_n 2, 1) := by decide +kernel
theorem dX5_mark_68 : decode cX5_mark 68 = .ok (.ireturn, 1) := by decide +kernel
theorem dX5_isLike_0 : decode cX5_isLike 0 = .ok (.aload_n 0, 1) := by decide +kernel
theorem dX5_isLike_1 : decode cX5_isLike 1 = .ok (.iload_n 1, 1) := by decide +kernel
theorem dX5_isLike_2 : decode cX5_isLike 2 = .ok (.invokestatic 87, 3) := by decide +kernel
theorem dX5_isLike_5 : decode cX5_isLike 5 = .ok (.ifCond .eq 10, 3) := by decide +kernel
theorem dX5_isLike_8 : decode cX5_isLike 8 = .ok (.iload_n 2, 1) := by decide +kernel
theorem dX5_isLike_9 : decode cX5_isLike 9 = .ok (.invokestatic 87, 3) := by decide +kernel
theorem dX5_isLike_12 : decode cX5_isLike 12 = .ok (.ifCond .ne 7, 3) := by decide +kernel
theorem dX5_isLike_15 : decode cX5_isLike 15 = .ok (.iconst 1, 1) := by decide +kernel
theorem dX5_isLike_16 : decode cX5_isLike 16 = .ok (.goto 4, 3) := by decide +kernel
theorem dX5_isLike_19 : decode cX5_isLike 19 = .ok (.iconst 0, 1) := by decide +kernel
theorem dX5_isLike_20 : decode cX5_isLike 20 = .ok (.invokevirtual 95, 3) := by decide +kernel
theorem dX5_isLike_23 : decode cX5_isLike 23 = .ok (.ifCond .eq 5, 3) := by decide +kernel
theorem dX5_isLike_26 : decode cX5_isLike 26 = .ok (.iconst 0, 1) := by decide +kernel
theorem dX5_isLike_27 : decode cX5_isLike 27 = .ok (.ireturn, 1) := by decide +kernel
theorem dX5_isLike_28 : decode cX5_isLike 28 = .ok (.aload_n 0, 1) := by decide +kernel
theorem dX5_isLike_29 : decode cX5_isLike 29 = .ok (.getfield 16, 3) := by decide +kernel
theorem dX5_isLike_32 : decode cX5_isLike 32 = .ok (.iload_n 1, 1) := by decide +kernel
theorem dX5_isLike_33 : decode cX5_isLike 33 = .ok (.iaload, 1) := by decide +kernel
theorem dX5_isLike_34 : decode cX5_isLike 34 = .ok (.aload_n 0, 1) := by decide +kernel
theorem dX5_isLike_35 : decode cX5_isLike 35 = .ok (.getfield 16, 3) := by decide +kernel
theorem dX5_isLike_38 : decode cX5_isLike 38 = .ok (.iload_n 2, 1) := by decide +kernel
theorem dX5_isLike_39 : decode cX5_isLike 39 = .ok (.iaload, 1) := by decide +kernel
theorem dX5_isLike_40 : decode cX5_isLike 40 = .ok (.if_icmp .ne 7, 3) := by decide +kernel
theorem dX5_isLike_43 : decode cX5_isLike 43 = .ok (.iconst 1, 1) := by decide +kernel
theorem dX5_isLike_44 : decode cX5_isLike 44 = .ok (.goto 4, 3) := by decide +kernel
theorem dX5_isLike_47 : decode cX5_isLike 47 = .ok (.iconst 0, 1) := by decide +kernel
theorem dX5_isLike_48 : decode cX5_isLike 48 = .ok (.istore_n 3, 1) := by decide +kernel
theorem dX5_isLike_49 : decode cX5_isLike 49 = .ok (.iconst 0, 1) := by decide +kernel
theorem dX5_isLike_50 : decode cX5_isLike 50 = .ok (.istore 4, 2) := by decide +kernel
theorem dX5_isLike_52 : decode cX5_isLike 52 = .ok (.iload 4, 2) := by decide +kernel
theorem dX5_isLike_54 : decode cX5_isLike 54 = .ok (.aload_n 0, 1) := by decide +kernel
theorem dX5_isLike_55 : decode cX5_isLike 55 = .ok (.getfield 16, 3) := by decide +kernel
theorem dX5_isLike_58 : decode cX5_isLike 58 = .ok (.iload_n 1, 1) := by decide +kernel
theorem dX5_isLike_59 : decode cX5_isLike 59 = .ok (.iaload, 1) := by decide +kernel
theorem dX5_isLike_60 : decode cX5_isLike 60 = .ok (.if_icmp .ge 73, 3) := by decide +kernel
theorem dX5_isLike_63 : decode cX5_isLike 63 = .ok (.iload_n 3, 1) := by decide +kernel
theorem dX5_isLike_64 : decode cX5_isLike 64 = .ok (.ifCond .eq 69, 3) := by decide +kernel
theorem dX5_isLike_67 : decode cX5_isLike 67 = .ok (.aload_n 0, 1) := by decide +kernel
theorem dX5_isLike_68 : decode cX5_isLike 68 = .ok (.getfield 7, 3) := by decide +kernel
theorem dX5_isLike_71 : decode cX5_isLike 71 = .ok (.bipush 60, 2) := by decide +kernel
theorem dX5_isLike_73 : decode cX5_isLike 73 = .ok (.iload_n 1, 1) := by decide +kernel
theorem dX5_isLike_74 : decode cX5_isLike 74 = .ok (.imul, 1) := by decide +kernel
theorem dX5_isLike_75 : decode cX5_isLike 75 = .ok (.iload 4, 2) := by decide +kernel
theorem dX5_isLike_77 : decode cX5_isLike 77 = .ok (.iadd, 1) := by decide +kernel
theorem dX5_isLike_78 : decode cX5_isLike 78 = .ok (.iaload, 1) := by decide +kernel
theorem dX5_isLike_79 : decode cX5_isLike 79 = .ok (.aload_n 0, 1) := by decide +kernel
theorem dX5_isLike_80 : decode cX5_isLike 80 = .ok (.getfield 7, 3) := by decide +kernel
theorem dX5_isLike_83 : decode cX5_isLike 83 = .ok (.bipush 60, 2) := by decide +kernel
theorem dX5_isLike_85 : decode cX5_isLike 85 = .ok (.iload_n 2, 1) := by decide +kernel
theorem dX5_isLike_86 : decode cX5_isLike 86 = .ok (.imul, 1) := by decide +kernel
theorem dX5_isLike_87 : decode cX5_isLike 87 = .ok (.iload 4, 2) := by decide +kernel
theorem dX5_isLike_89 : decode cX5_isLike 89 = .ok (.iadd, 1) := by decide +kernel
theorem dX5_isLike_90 : decode cX5_isLike 90 = .ok (.iaload, 1) := by decide +kernel
theorem dX5_isLike_91 : decode cX5_isLike 91 = .ok (.if_icmp .ne 34, 3) := by decide +kernel
theorem dX5_isLike_94 : decode cX5_isLike 94 = .ok (.aload_n 0, 1) := by decide +kernel
theorem dX5_isLike_95 : decode cX5_isLike 95 = .ok (.getfield 13, 3) := by decide +kernel
theorem dX5_isLike_98 : decode cX5_isLike 98 = .ok (.bipush 60, 2) := by decide +kernel
theorem dX5_isLike_100 : decode cX5_isLike 100 = .ok (.iload_n 1, 1) := by decide +kernel
theorem dX5_isLike_101 : decode cX5_isLike 101 = .ok (.imul, 1) := by decide +kernel
theorem dX5_isLike_102 : decode cX5_isLike 102 = .ok (.iload 4, 2) := by decide +kernel
theorem dX5_isLike_104 : decode cX5_isLike 104 = .ok (.iadd, 1) := by decide +kernel
theorem dX5_isLike_105 : decode cX5_isLike 105 = .ok (.iaload, 1) := by decide +kernel
theorem dX5_isLike_106 : decode cX5_isLike 106 = .ok (.aload_n 0, 1) := by decide +kernel
theorem dX5_isLike_107 : decode cX5_isLike 107 = .ok (.getfield 13, 3) := by decide +kernel
theorem dX5_isLike_110 : decode cX5_isLike 110 = .ok (.bipush 60, 2) := by decide +kernel
theorem dX5_isLike_112 : decode cX5_isLike 112 = .ok (.iload_n 2, 1) := by decide +kernel
theorem dX5_isLike_113 : decode cX5_isLike 113 = .ok (.imul, 1) := by decide +kernel
theorem dX5_isLike_114 : decode cX5_isLike 114 = .ok (.iload 4, 2) := by decide +kernel
theorem dX5_isLike_116 : decode cX5_isLike 116 = .ok (.iadd, 1) := by decide +kernel
theorem dX5_isLike_117 : decode cX5_isLike 117 = .ok (.iaload, 1) := by decide +kernel
theorem dX5_isLike_118 : decode cX5_isLike 118 = .ok (.if_icmp .ne 7, 3) := by decide +kernel
theorem dX5_isLike_121 : decode cX5_isLike 121 = .ok (.iconst 1, 1) := by decide +kernel
theorem dX5_isLike_122 : decode cX5_isLike 122 = .ok (.goto 4, 3) := by decide +kernel
theorem dX5_isLike_125 : decode cX5_isLike 125 = .ok (.iconst 0, 1) := by decide +kernel
theorem dX5_isLike_126 : decode cX5_isLike 126 = .ok (.istore_n 3, 1) := by decide +kernel
theorem dX5_isLike_127 : decode cX5_isLike 127 = .ok (.iinc 4 1, 3) := by decide +kernel
theorem dX5_isLike_130 : decode cX5_isLike 130 = .ok (.goto (-78), 3) := by decide +kernel
theorem dX5_isLike_133 : decode cX5_isLike 133 = .ok (.iload_n 3, 1) := by decide +kernel
theorem dX5_isLike_134 : decode cX5_isLike 134 = .ok (.ireturn, 1) := by decide +kernel
theorem dX5_isIn_0 : decode cX5_isIn 0 = .ok (.aload_n 0, 1) := by decide +kernel
theorem dX5_isIn_1 : decode cX5_isIn 1 = .ok (.getfield 32, 3) := by decide +kernel
theorem dX5_isIn_4 : decode cX5_isIn 4 = .ok (.iload_n 1, 1) := by decide +kernel
theorem dX5_isIn_5 : decode cX5_isIn 5 = .ok (.baload, 1) := by decide +kernel
theorem dX5_isIn_6 : decode cX5_isIn 6 = .ok (.ifCond .eq 21, 3) := by decide +kernel
theorem dX5_isIn_9 : decode cX5_isIn 9 = .ok (.iload_n 2, 1) := by decide +kernel
theorem dX5_isIn_10 : decode cX5_isIn 10 = .ok (.aload_n 0, 1) := by decide +kernel
theorem dX5_isIn_11 : decode cX5_isIn 11 = .ok (.getfield 26, 3) := by decide +kernel
theorem dX5_isIn_14 : decode cX5_isIn 14 = .ok (.iload_n 1, 1) := by decide +kernel
theorem dX5_isIn_15 : decode cX5_isIn 15 = .ok (.iaload, 1) := by decide +kernel
theorem dX5_isIn_16 : decode cX5_isIn 16 = .ok (.if_icmp .lt 7, 3) := by decide +kernel
theorem dX5_isIn_19 : decode cX5_isIn 19 = .ok (.iconst 1, 1) := by decide +kernel
theorem dX5_isIn_20 : decode cX5_isIn 20 = .ok (.goto 22, 3) := by decide +kernel
theorem dX5_isIn_23 : decode cX5_isIn 23 = .ok (.iconst 0, 1) := by decide +kernel
theorem dX5_isIn_24 : decode cX5_isIn 24 = .ok (.goto 18, 3) := by decide +kernel
theorem dX5_isIn_27 : decode cX5_isIn 27 = .ok (.iload_n 2, 1) := by decide +kernel
theorem dX5_isIn_28 : decode cX5_isIn 28 = .ok (.aload_n 0, 1) := by decide +kernel
theorem dX5_isIn_29 : decode cX5_isIn 29 = .ok (.getfield 26, 3) := by decide +kernel
theorem dX5_isIn_32 : decode cX5_isIn 32 = .ok (.iload_n 1, 1) := by decide +kernel
theorem dX5_isIn_33 : decode cX5_isIn 33 = .ok (.iaload, 1) := by decide +kernel
theorem dX5_isIn_34 : decode cX5_isIn 34 = .ok (.if_icmp .le 7, 3) := by decide +kernel
theorem dX5_isIn_37 : decode cX5_isIn 37 = .ok (.iconst 1, 1) := by decide +kernel
theorem dX5_isIn_38 : decode cX5_isIn 38 = .ok (.goto 4, 3) := by decide +kernel
theorem dX5_isIn_41 : decode cX5_isIn 41 = .ok (.iconst 0, 1) := by decide +kernel
theorem dX5_isIn_42 : decode cX5_isIn 42 = .ok (.istore_n 3, 1) := by decide +kernel
theorem dX5_isIn_43 : decode cX5_isIn 43 = .ok (.aload_n 0, 1) := by decide +kernel
theorem dX5_isIn_44 : decode cX5_isIn 44 = .ok (.getfield 35, 3) := by decide +kernel
theorem dX5_isIn_47 : decode cX5_isIn 47 = .ok (.iload_n 1, 1) := by decide +kernel
theorem dX5_isIn_48 : decode cX5_isIn 48 = .ok (.baload, 1) := by decide +kernel
theorem dX5_isIn_49 : decode cX5_isIn 49 = .ok (.ifCond .eq 21, 3) := by decide +kernel
theorem dX5_isIn_52 : decode cX5_isIn 52 = .ok (.iload_n 2, 1) := by decide +kernel
theorem dX5_isIn_53 : decode cX5_isIn 53 = .ok (.aload_n 0, 1) := by decide +kernel
theorem dX5_isIn_54 : decode cX5_isIn 54 = .ok (.getfield 29, 3) := by decide +kernel
theorem dX5_isIn_57 : decode cX5_isIn 57 = .ok (.iload_n 1, 1) := by decide +kernel
theorem dX5_isIn_58 : decode cX5_isIn 58 = .ok (.iaload, 1) := by decide +kernel
theorem dX5_isIn_59 : decode cX5_isIn 59 = .ok (.if_icmp .gt 7, 3) := by decide +kernel
theorem dX5_isIn_62 : decode cX5_isIn 62 = .ok (.iconst 1, 1) := by decide +kernel
theorem dX5_isIn_63 : decode cX5_isIn 63 = .ok (.goto 22, 3) := by decide +kernel
theorem dX5_isIn_66 : decode cX5_isIn 66 = .ok (.iconst 0, 1) := by decide +kernel
theorem dX5_isIn_67 : decode cX5_isIn 67 = .ok (.goto 18, 3) := by decide +kernel
theorem dX5_isIn_70 : decode cX5_isIn 70 = .ok (.iload_n 2, 1) := by decide +kernel
theorem dX5_isIn_71 : decode cX5_isIn 71 = .ok (.aload_n 0, 1) := by decide +kernel
theorem dX5_isIn_72 : decode cX5_isIn 72 = .ok (.getfield 29, 3) := by decide +kernel
theorem dX5_isIn_75 : decode cX5_isIn 75 = .ok (.iload_n 1, 1) := by decide +kernel
theorem dX5_isIn_76 : decode cX5_isIn 76 = .ok (.iaload, 1) := by decide +kernel
theorem dX5_isIn_77 : decode cX5_isIn 77 = .ok (.if_icmp .ge 7, 3) := by decide +kernel
theorem dX5_isIn_80 : decode cX5_isIn 80 = .ok (.iconst 1, 1) := by decide +kernel
theorem dX5_isIn_81 : decode cX5_isIn 81 = .ok (.goto 4, 3) := by decide +kernel
theorem dX5_isIn_84 : decode cX5_isIn 84 = .ok (.iconst 0, 1) := by decide +kernel
theorem dX5_isIn_85 : decode cX5_isIn 85 = .ok (.istore 4, 2) := by decide +kernel
theorem dX5_isIn_87 : decode cX5_isIn 87 = .ok (.iload_n 3, 1) := by decide +kernel
theorem dX5_isIn_88 : decode cX5_isIn 88 = .ok (.ifCond .eq 12, 3) := by decide +kernel
theorem dX5_isIn_91 : decode cX5_isIn 91 = .ok (.iload 4, 2) := by decide +kernel
theorem dX5_isIn_93 : decode cX5_isIn 93 = .ok (.ifCond .eq 7, 3) := by decide +kernel
theorem dX5_isIn_96 : decode cX5_isIn 96 = .ok (.iconst 1, 1) := by decide +kernel
theorem dX5_isIn_97 : decode cX5_isIn 97 = .ok (.goto 4, 3) := by decide +kernel
theorem dX5_isIn_100 : decode cX5_isIn 100 = .ok (.iconst 0, 1) := by decide +kernel
theorem dX5_isIn_101 : decode cX5_isIn 101 = .ok (.ireturn, 1) := by decide +kernel
theorem dX5_firstOf_0 : decode cX5_firstOf 0 = .ok (.aload_n 0, 1) := by decide +kernel
theorem dX5_firstOf_1 : decode cX5_firstOf 1 = .ok (.getfield 23, 3) := by decide +kernel
theorem dX5_firstOf_4 : decode cX5_firstOf 4 = .ok (.iload_n 1, 1) := by decide +kernel
theorem dX5_firstOf_5 : decode cX5_firstOf 5 = .ok (.iaload, 1) := by decide +kernel
theorem dX5_firstOf_6 : decode cX5_firstOf 6 = .ok (.istore_n 2, 1) := by decide +kernel
theorem dX5_firstOf_7 : decode cX5_firstOf 7 = .ok (.iconst 0, 1) := by decide +kernel
theorem dX5_firstOf_8 : decode cX5_firstOf 8 = .ok (.istore_n 3, 1) := by decide +kernel
theorem dX5_firstOf_9 : decode cX5_firstOf 9 = .ok (.iload_n 3, 1) := by decide +kernel
theorem dX5_firstOf_10 : decode cX5_firstOf 10 = .ok (.aload_n 0, 1) := by decide +kernel
theorem dX5_firstOf_11 : decode cX5_firstOf 11 = .ok (.getfield 16, 3) := by decide +kernel
theorem dX5_firstOf_14 : decode cX5_firstOf 14 = .ok (.iload_n 2, 1) := by decide +kernel
theorem dX5_firstOf_15 : decode cX5_firstOf 15 = .ok (.iaload, 1) := by decide +kernel
theorem dX5_firstOf_16 : decode cX5_firstOf 16 = .ok (.if_icmp .ge 58, 3) := by decide +kernel
theorem dX5_firstOf_19 : decode cX5_firstOf 19 = .ok (.aload_n 0, 1) := by decide +kernel
theorem dX5_firstOf_20 : decode cX5_firstOf 20 = .ok (.getfield 7, 3) := by decide +kernel
theorem dX5_firstOf_23 : decode cX5_firstOf 23 = .ok (.bipush 60, 2) := by decide +kernel
theorem dX5_firstOf_25 : decode cX5_firstOf 25 = .ok (.iload_n 2, 1) := by decide +kernel
theorem dX5_firstOf_26 : decode cX5_firstOf 26 = .ok (.imul, 1) := by decide +kernel
theorem dX5_firstOf_27 : decode cX5_firstOf 27 = .ok (.iload_n 3, 1) := by decide +kernel
theorem dX5_firstOf_28 : decode cX5_firstOf 28 = .ok (.iadd, 1) := by decide +kernel
theorem dX5_firstOf_29 : decode cX5_firstOf 29 = .ok (.iaload, 1) := by decide +kernel
theorem dX5_firstOf_30 : decode cX5_firstOf 30 = .ok (.aload_n 0, 1) := by decide +kernel
theorem dX5_firstOf_31 : decode cX5_firstOf 31 = .ok (.getfield 26, 3) := by decide +kernel
theorem dX5_firstOf_34 : decode cX5_firstOf 34 = .ok (.iload_n 1, 1) := by decide +kernel
theorem dX5_firstOf_35 : decode cX5_firstOf 35 = .ok (.iaload, 1) := by decide +kernel
theorem dX5_firstOf_36 : decode cX5_firstOf 36 = .ok (.if_icmp .lt 32, 3) := by decide +kernel
theorem dX5_firstOf_39 : decode cX5_firstOf 39 = .ok (.aload_n 0, 1) := by decide +kernel
theorem dX5_firstOf_40 : decode cX5_firstOf 40 = .ok (.getfield 7, 3) := by decide +kernel
theorem dX5_firstOf_43 : decode cX5_firstOf 43 = .ok (.bipush 60, 2) := by decide +kernel
theorem dX5_firstOf_45 : decode cX5_firstOf 45 = .ok (.iload_n 2, 1) := by decide +kernel
theorem dX5_firstOf_46 : decode cX5_firstOf 46 = .ok (.imul, 1) := by decide +kernel
theorem dX5_firstOf_47 : decode cX5_firstOf 47 = .ok (.iload_n 3, 1) := by decide +kernel
theorem dX5_firstOf_48 : decode cX5_firstOf 48 = .ok (.iadd, 1) := by decide +kernel
theorem dX5_firstOf_49 : decode cX5_firstOf 49 = .ok (.iaload, 1) := by decide +kernel
theorem dX5_firstOf_50 : decode cX5_firstOf 50 = .ok (.aload_n 0, 1) := by decide +kernel
theorem dX5_firstOf_51 : decode cX5_firstOf 51 = .ok (.getfield 26, 3) := by decide +kernel
theorem dX5_firstOf_54 : decode cX5_firstOf 54 = .ok (.iload_n 1, 1) := by decide +kernel
theorem dX5_firstOf_55 : decode cX5_firstOf 55 = .ok (.iaload, 1) := by decide +kernel
theorem dX5_firstOf_56 : decode cX5_firstOf 56 = .ok (.if_icmp .ne 18, 3) := by decide +kernel
theorem dX5_firstOf_59 : decode cX5_firstOf 59 = .ok (.aload_n 0, 1) := by decide +kernel
theorem dX5_firstOf_60 : decode cX5_firstOf 60 = .ok (.getfield 32, 3) := by decide +kernel
theorem dX5_firstOf_63 : decode cX5_firstOf 63 = .ok (.iload_n 1, 1) := by decide +kernel
theorem dX5_firstOf_64 : decode cX5_firstOf 64 = .ok (.baload, 1) := by decide +kernel
theorem dX5_firstOf_65 : decode cX5_firstOf 65 = .ok (.ifCond .ne 9, 3) := by decide +kernel
theorem dX5_firstOf_68 : decode cX5_firstOf 68 = .ok (.iinc 3 1, 3) := by decide +kernel
theorem dX5_firstOf_71 : decode cX5_firstOf 71 = .ok (.goto (-62), 3) := by decide +kernel
theorem dX5_firstOf_74 : decode cX5_firstOf 74 = .ok (.iload_n 3, 1) := by decide +kernel
theorem dX5_firstOf_75 : decode cX5_firstOf 75 = .ok (.ireturn, 1) := by decide +kernel
theorem dX5_behindOf_0 : decode cX5_behindOf 0 = .ok (.aload_n 0, 1) := by decide +kernel
theorem dX5_behindOf_1 : decode cX5_behindOf 1 = .ok (.getfield 23, 3) := by decide +kernel
theorem dX5_behindOf_4 : decode cX5_behindOf 4 = .ok (.iload_n 1, 1) := by decide +kernel
theorem dX5_behindOf_5 : decode cX5_behindOf 5 = .ok (.iaload, 1) := by decide +kernel
theorem dX5_behindOf_6 : decode cX5_behindOf 6 = .ok (.istore_n 2, 1) := by decide +kernel
theorem dX5_behindOf_7 : decode cX5_behindOf 7 = .ok (.aload_n 0, 1) := by decide +kernel
theorem dX5_behindOf_8 : decode cX5_behindOf 8 = .ok (.iload_n 1, 1) := by decide +kernel
theorem dX5_behindOf_9 : decode cX5_behindOf 9 = .ok (.invokevirtual 116, 3) := by decide +kernel
theorem dX5_behindOf_12 : decode cX5_behindOf 12 = .ok (.istore_n 3, 1) := by decide +kernel
theorem dX5_behindOf_13 : decode cX5_behindOf 13 = .ok (.iload_n 3, 1) := by decide +kernel
theorem dX5_behindOf_14 : decode cX5_behindOf 14 = .ok (.aload_n 0, 1) := by decide +kernel
theorem dX5_behindOf_15 : decode cX5_behindOf 15 = .ok (.getfield 16, 3) := by decide +kernel
theorem dX5_behindOf_18 : decode cX5_behindOf 18 = .ok (.iload_n 2, 1) := by decide +kernel
theorem dX5_behindOf_19 : decode cX5_behindOf 19 = .ok (.iaload, 1) := by decide +kernel
theorem dX5_behindOf_20 : decode cX5_behindOf 20 = .ok (.if_icmp .ge 28, 3) := by decide +kernel
theorem dX5_behindOf_23 : decode cX5_behindOf 23 = .ok (.aload_n 0, 1) := by decide +kernel
theorem dX5_behindOf_24 : decode cX5_behindOf 24 = .ok (.iload_n 1, 1) := by decide +kernel
theorem dX5_behindOf_25 : decode cX5_behindOf 25 = .ok (.aload_n 0, 1) := by decide +kernel
theorem dX5_behindOf_26 : decode cX5_behindOf 26 = .ok (.getfield 7, 3) := by decide +kernel
theorem dX5_behindOf_29 : decode cX5_behindOf 29 = .ok (.bipush 60, 2) := by decide +kernel
theorem dX5_behindOf_31 : decode cX5_behindOf 31 = .ok (.iload_n 2, 1) := by decide +kernel
theorem dX5_behindOf_32 : decode cX5_behindOf 32 = .ok (.imul, 1) := by decide +kernel
theorem dX5_behindOf_33 : decode cX5_behindOf 33 = .ok (.iload_n 3, 1) := by decide +kernel
theorem dX5_behindOf_34 : decode cX5_behindOf 34 = .ok (.iadd, 1) := by decide +kernel
theorem dX5_behindOf_35 : decode cX5_behindOf 35 = .ok (.iaload, 1) := by decide +kernel
theorem dX5_behindOf_36 : decode cX5_behindOf 36 = .ok (.invokevirtual 120, 3) := by decide +kernel
theorem dX5_behindOf_39 : decode cX5_behindOf 39 = .ok (.ifCond .eq 9, 3) := by decide +kernel
theorem dX5_behindOf_42 : decode cX5_behindOf 42 = .ok (.iinc 3 1, 3) := by decide +kernel
theorem dX5_behindOf_45 : decode cX5_behindOf 45 = .ok (.goto (-32), 3) := by decide +kernel
theorem dX5_behindOf_48 : decode cX5_behindOf 48 = .ok (.iload_n 3, 1) := by decide +kernel
theorem dX5_behindOf_49 : decode cX5_behindOf 49 = .ok (.ireturn, 1) := by decide +kernel
theorem dX5_manyOf_0 : decode cX5_manyOf 0 = .ok (.aload_n 0, 1) := by decide +kernel
theorem dX5_manyOf_1 : decode cX5_manyOf 1 = .ok (.iload_n 1, 1) := by decide +kernel
theorem dX5_manyOf_2 : decode cX5_manyOf 2 = .ok (.invokevirtual 123, 3) := by decide +kernel
theorem dX5_manyOf_5 : decode cX5_manyOf 5 = .ok (.aload_n 0, 1) := by decide +kernel
theorem dX5_manyOf_6 : decode cX5_manyOf 6 = .ok (.iload_n 1, 1) := by decide +kernel
theorem dX5_manyOf_7 : decode cX5_manyOf 7 = .ok (.invokevirtual 116, 3) := by decide +kernel
theorem dX5_manyOf_10 : decode cX5_manyOf 10 = .ok (.isub, 1) := by decide +kernel
theorem dX5_manyOf_11 : decode cX5_manyOf 11 = .ok (.ireturn, 1) := by decide +kernel
theorem dX5_open_0 : decode cX5_open 0 = .ok (.aload_n 0, 1) := by decide +kernel
theorem dX5_open_1 : decode cX5_open 1 = .ok (.iload_n 1, 1) := by decide +kernel
theorem dX5_open_2 : decode cX5_open 2 = .ok (.invokestatic 126, 3) := by decide +kernel
theorem dX5_open_5 : decode cX5_open 5 = .ok (.ifCond .eq 10, 3) := by decide +kernel
theorem dX5_open_8 : decode cX5_open 8 = .ok (.iload_n 2, 1) := by decide +kernel
theorem dX5_open_9 : decode cX5_open 9 = .ok (.invokestatic 87, 3) := by decide +kernel
theorem dX5_open_12 : decode cX5_open 12 = .ok (.ifCond .ne 7, 3) := by decide +kernel
theorem dX5_open_15 : decode cX5_open 15 = .ok (.iconst 1, 1) := by decide +kernel
theorem dX5_open_16 : decode cX5_open 16 = .ok (.goto 14, 3) := by decide +kernel
theorem dX5_open_19 : decode cX5_open 19 = .ok (.iload 5, 2) := by decide +kernel
theorem dX5_open_21 : decode cX5_open 21 = .ok (.iload_n 3, 1) := by decide +kernel
theorem dX5_open_22 : decode cX5_open 22 = .ok (.if_icmp .ge 7, 3) := by decide +kernel
theorem dX5_open_25 : decode cX5_open 25 = .ok (.iconst 2, 1) := by decide +kernel
theorem dX5_open_26 : decode cX5_open 26 = .ok (.goto 4, 3) := by decide +kernel
theorem dX5_open_29 : decode cX5_open 29 = .ok (.iconst 0, 1) := by decide +kernel
theorem dX5_open_30 : decode cX5_open 30 = .ok (.invokevirtual 95, 3) := by decide +kernel
theorem dX5_open_33 : decode cX5_open 33 = .ok (.ifCond .eq 5, 3) := by decide +kernel
theorem dX5_open_36 : decode cX5_open 36 = .ok (.iconst 0, 1) := by decide +kernel
theorem dX5_open_37 : decode cX5_open 37 = .ok (.ireturn, 1) := by decide +kernel
theorem dX5_open_38 : decode cX5_open 38 = .ok (.aload_n 0, 1) := by decide +kernel
theorem dX5_open_39 : decode cX5_open 39 = .ok (.getfield 19, 3) := by decide +kernel
theorem dX5_open_42 : decode cX5_open 42 = .ok (.iload_n 1, 1) := by decide +kernel
theorem dX5_open_43 : decode cX5_open 43 = .ok (.iconst 1, 1) := by decide +kernel
theorem dX5_open_44 : decode cX5_open 44 = .ok (.bastore, 1) := by decide +kernel
theorem dX5_open_45 : decode cX5_open 45 = .ok (.aload_n 0, 1) := by decide +kernel
theorem dX5_open_46 : decode cX5_open 46 = .ok (.getfield 23, 3) := by decide +kernel
theorem dX5_open_49 : decode cX5_open 49 = .ok (.iload_n 1, 1) := by decide +kernel
theorem dX5_open_50 : decode cX5_open 50 = .ok (.iload_n 2, 1) := by decide +kernel
theorem dX5_open_51 : decode cX5_open 51 = .ok (.iastore, 1) := by decide +kernel
theorem dX5_open_52 : decode cX5_open 52 = .ok (.aload_n 0, 1) := by decide +kernel
theorem dX5_open_53 : decode cX5_open 53 = .ok (.getfield 26, 3) := by decide +kernel
theorem dX5_open_56 : decode cX5_open 56 = .ok (.iload_n 1, 1) := by decide +kernel
theorem dX5_open_57 : decode cX5_open 57 = .ok (.iload_n 3, 1) := by decide +kernel
theorem dX5_open_58 : decode cX5_open 58 = .ok (.iastore, 1) := by decide +kernel
theorem dX5_open_59 : decode cX5_open 59 = .ok (.aload_n 0, 1) := by decide +kernel
theorem dX5_open_60 : decode cX5_open 60 = .ok (.getfield 32, 3) := by decide +kernel
theorem dX5_open_63 : decode cX5_open 63 = .ok (.iload_n 1, 1) := by decide +kernel
theorem dX5_open_64 : decode cX5_open 64 = .ok (.iload 4, 2) := by decide +kernel
theorem dX5_open_66 : decode cX5_open 66 = .ok (.bastore, 1) := by decide +kernel
theorem dX5_open_67 : decode cX5_open 67 = .ok (.aload_n 0, 1) := by decide +kernel
theorem dX5_open_68 : decode cX5_open 68 = .ok (.getfield 29, 3) := by decide +kernel
theorem dX5_open_71 : decode cX5_open 71 = .ok (.iload_n 1, 1) := by decide +kernel
theorem dX5_open_72 : decode cX5_open 72 = .ok (.iload 5, 2) := by decide +kernel
theorem dX5_open_74 : decode cX5_open 74 = .ok (.iastore, 1) := by decide +kernel
theorem dX5_open_75 : decode cX5_open 75 = .ok (.aload_n 0, 1) := by decide +kernel
theorem dX5_open_76 : decode cX5_open 76 = .ok (.getfield 35, 3) := by decide +kernel
theorem dX5_open_79 : decode cX5_open 79 = .ok (.iload_n 1, 1) := by decide +kernel
theorem dX5_open_80 : decode cX5_open 80 = .ok (.iload 6, 2) := by decide +kernel
theorem dX5_open_82 : decode cX5_open 82 = .ok (.bastore, 1) := by decide +kernel
theorem dX5_open_83 : decode cX5_open 83 = .ok (.aload_n 0, 1) := by decide +kernel
theorem dX5_open_84 : decode cX5_open 84 = .ok (.getfield 38, 3) := by decide +kernel
theorem dX5_open_87 : decode cX5_open 87 = .ok (.iload_n 1, 1) := by decide +kernel
theorem dX5_open_88 : decode cX5_open 88 = .ok (.iconst 0, 1) := by decide +kernel
theorem dX5_open_89 : decode cX5_open 89 = .ok (.iastore, 1) := by decide +kernel
theorem dX5_open_90 : decode cX5_open 90 = .ok (.aload_n 0, 1) := by decide +kernel
theorem dX5_open_91 : decode cX5_open 91 = .ok (.iload_n 1, 1) := by decide +kernel
theorem dX5_open_92 : decode cX5_open 92 = .ok (.invokevirtual 129, 3) := by decide +kernel
theorem dX5_open_95 : decode cX5_open 95 = .ok (.ireturn, 1) := by decide +kernel
theorem dX5_cut_0 : decode cX5_cut 0 = .ok (.aload_n 0, 1) := by decide +kernel
theorem dX5_cut_1 : decode cX5_cut 1 = .ok (.iload_n 1, 1) := by decide +kernel
theorem dX5_cut_2 : decode cX5_cut 2 = .ok (.invokestatic 126, 3) := by decide +kernel
theorem dX5_cut_5 : decode cX5_cut 5 = .ok (.ifCond .eq 10, 3) := by decide +kernel
theorem dX5_cut_8 : decode cX5_cut 8 = .ok (.iload_n 2, 1) := by decide +kernel
theorem dX5_cut_9 : decode cX5_cut 9 = .ok (.invokestatic 126, 3) := by decide +kernel
theorem dX5_cut_12 : decode cX5_cut 12 = .ok (.ifCond .ne 7, 3) := by decide +kernel
theorem dX5_cut_15 : decode cX5_cut 15 = .ok (.iconst 1, 1) := by decide +kernel
theorem dX5_cut_16 : decode cX5_cut 16 = .ok (.goto 46, 3) := by decide +kernel
theorem dX5_cut_19 : decode cX5_cut 19 = .ok (.aload_n 0, 1) := by decide +kernel
theorem dX5_cut_20 : decode cX5_cut 20 = .ok (.getfield 19, 3) := by decide +kernel
theorem dX5_cut_23 : decode cX5_cut 23 = .ok (.iload_n 2, 1) := by decide +kernel
theorem dX5_cut_24 : decode cX5_cut 24 = .ok (.baload, 1) := by decide +kernel
theorem dX5_cut_25 : decode cX5_cut 25 = .ok (.ifCond .ne 7, 3) := by decide +kernel
theorem dX5_cut_28 : decode cX5_cut 28 = .ok (.iconst 2, 1) := by decide +kernel
theorem dX5_cut_29 : decode cX5_cut 29 = .ok (.goto 33, 3) := by decide +kernel
theorem dX5_cut_32 : decode cX5_cut 32 = .ok (.aload_n 0, 1) := by decide +kernel
theorem dX5_cut_33 : decode cX5_cut 33 = .ok (.iload_n 2, 1) := by decide +kernel
theorem dX5_cut_34 : decode cX5_cut 34 = .ok (.iload 4, 2) := by decide +kernel
theorem dX5_cut_36 : decode cX5_cut 36 = .ok (.invokevirtual 120, 3) := by decide +kernel
theorem dX5_cut_39 : decode cX5_cut 39 = .ok (.ifCond .ne 7, 3) := by decide +kernel
theorem dX5_cut_42 : decode cX5_cut 42 = .ok (.iconst 3, 1) := by decide +kernel
theorem dX5_cut_43 : decode cX5_cut 43 = .ok (.goto 19, 3) := by decide +kernel
theorem dX5_cut_46 : decode cX5_cut 46 = .ok (.aload_n 0, 1) := by decide +kernel
theorem dX5_cut_47 : decode cX5_cut 47 = .ok (.getfield 38, 3) := by decide +kernel
theorem dX5_cut_50 : decode cX5_cut 50 = .ok (.iload_n 2, 1) := by decide +kernel
theorem dX5_cut_51 : decode cX5_cut 51 = .ok (.iaload, 1) := by decide +kernel
theorem dX5_cut_52 : decode cX5_cut 52 = .ok (.bipush 12, 2) := by decide +kernel
theorem dX5_cut_54 : decode cX5_cut 54 = .ok (.if_icmp .ne 7, 3) := by decide +kernel
theorem dX5_cut_57 : decode cX5_cut 57 = .ok (.iconst 4, 1) := by decide +kernel
theorem dX5_cut_58 : decode cX5_cut 58 = .ok (.goto 4, 3) := by decide +kernel
theorem dX5_cut_61 : decode cX5_cut 61 = .ok (.iconst 0, 1) := by decide +kernel
theorem dX5_cut_62 : decode cX5_cut 62 = .ok (.invokevirtual 95, 3) := by decide +kernel
theorem dX5_cut_65 : decode cX5_cut 65 = .ok (.ifCond .eq 5, 3) := by decide +kernel
theorem dX5_cut_68 : decode cX5_cut 68 = .ok (.iconst 0, 1) := by decide +kernel
theorem dX5_cut_69 : decode cX5_cut 69 = .ok (.ireturn, 1) := by decide +kernel
theorem dX5_cut_70 : decode cX5_cut 70 = .ok (.aload_n 0, 1) := by decide +kernel
theorem dX5_cut_71 : decode cX5_cut 71 = .ok (.getfield 19, 3) := by decide +kernel
theorem dX5_cut_74 : decode cX5_cut 74 = .ok (.iload_n 1, 1) := by decide +kernel
theorem dX5_cut_75 : decode cX5_cut 75 = .ok (.iconst 1, 1) := by decide +kernel
theorem dX5_cut_76 : decode cX5_cut 76 = .ok (.bastore, 1) := by decide +kernel
theorem dX5_cut_77 : decode cX5_cut 77 = .ok (.aload_n 0, 1) := by decide +kernel
theorem dX5_cut_78 : decode cX5_cut 78 = .ok (.getfield 23, 3) := by decide +kernel
theorem dX5_cut_81 : decode cX5_cut 81 = .ok (.iload_n 1, 1) := by decide +kernel
theorem dX5_cut_82 : decode cX5_cut 82 = .ok (.aload_n 0, 1) := by decide +kernel
theorem dX5_cut_83 : decode cX5_cut 83 = .ok (.getfield 23, 3) := by decide +kernel
theorem dX5_cut_86 : decode cX5_cut 86 = .ok (.iload_n 2, 1) := by decide +kernel
theorem dX5_cut_87 : decode cX5_cut 87 = .ok (.iaload, 1) := by decide +kernel
theorem dX5_cut_88 : decode cX5_cut 88 = .ok (.iastore, 1) := by decide +kernel
theorem dX5_cut_89 : decode cX5_cut 89 = .ok (.aload_n 0, 1) := by decide +kernel
theorem dX5_cut_90 : decode cX5_cut 90 = .ok (.getfield 26, 3) := by decide +kernel
theorem dX5_cut_93 : decode cX5_cut 93 = .ok (.iload_n 1, 1) := by decide +kernel
theorem dX5_cut_94 : decode cX5_cut 94 = .ok (.iload_n 3, 1) := by decide +kernel
theorem dX5_cut_95 : decode cX5_cut 95 = .ok (.ifCond .eq 12, 3) := by decide +kernel
theorem dX5_cut_98 : decode cX5_cut 98 = .ok (.aload_n 0, 1) := by decide +kernel
theorem dX5_cut_99 : decode cX5_cut 99 = .ok (.getfield 26, 3) := by decide +kernel
theorem dX5_cut_102 : decode cX5_cut 102 = .ok (.iload_n 2, 1) := by decide +kernel
theorem dX5_cut_103 : decode cX5_cut 103 = .ok (.iaload, 1) := by decide +kernel
theorem dX5_cut_104 : decode cX5_cut 104 = .ok (.goto 5, 3) := by decide +kernel
theorem dX5_cut_107 : decode cX5_cut 107 = .ok (.iload 4, 2) := by decide +kernel
theorem dX5_cut_109 : decode cX5_cut 109 = .ok (.iastore, 1) := by decide +kernel
theorem dX5_cut_110 : decode cX5_cut 110 = .ok (.aload_n 0, 1) := by decide +kernel
theorem dX5_cut_111 : decode cX5_cut 111 = .ok (.getfield 32, 3) := by decide +kernel
theorem dX5_cut_114 : decode cX5_cut 114 = .ok (.iload_n 1, 1) := by decide +kernel
theorem dX5_cut_115 : decode cX5_cut 115 = .ok (.iload_n 3, 1) := by decide +kernel
theorem dX5_cut_116 : decode cX5_cut 116 = .ok (.ifCond .eq 12, 3) := by decide +kernel
theorem dX5_cut_119 : decode cX5_cut 119 = .ok (.aload_n 0, 1) := by decide +kernel
theorem dX5_cut_120 : decode cX5_cut 120 = .ok (.getfield 32, 3) := by decide +kernel
theorem dX5_cut_123 : decode cX5_cut 123 = .ok (.iload_n 2, 1) := by decide +kernel
theorem dX5_cut_124 : decode cX5_cut 124 = .ok (.baload, 1) := by decide +kernel
theorem dX5_cut_125 : decode cX5_cut 125 = .ok (.goto 5, 3) := by decide +kernel
theorem dX5_cut_128 : decode cX5_cut 128 = .ok (.iload 5, 2) := by decide +kernel
theorem dX5_cut_130 : decode cX5_cut 130 = .ok (.bastore, 1) := by decide +kernel
theorem dX5_cut_131 : decode cX5_cut 131 = .ok (.aload_n 0, 1) := by decide +kernel
theorem dX5_cut_132 : decode cX5_cut 132 = .ok (.getfield 29, 3) := by decide +kernel
theorem dX5_cut_135 : decode cX5_cut 135 = .ok (.iload_n 1, 1) := by decide +kernel
theorem dX5_cut_136 : decode cX5_cut 136 = .ok (.iload_n 3, 1) := by decide +kernel
theorem dX5_cut_137 : decode cX5_cut 137 = .ok (.ifCond .eq 8, 3) := by decide +kernel
theorem dX5_cut_140 : decode cX5_cut 140 = .ok (.iload 4, 2) := by decide +kernel
theorem dX5_cut_142 : decode cX5_cut 142 = .ok (.goto 9, 3) := by decide +kernel
theorem dX5_cut_145 : decode cX5_cut 145 = .ok (.aload_n 0, 1) := by decide +kernel
theorem dX5_cut_146 : decode cX5_cut 146 = .ok (.getfield 29, 3) := by decide +kernel
theorem dX5_cut_149 : decode cX5_cut 149 = .ok (.iload_n 2, 1) := by decide +kernel
theorem dX5_cut_150 : decode cX5_cut 150 = .ok (.iaload, 1) := by decide +kernel
theorem dX5_cut_151 : decode cX5_cut 151 = .ok (.iastore, 1) := by decide +kernel
theorem dX5_cut_152 : decode cX5_cut 152 = .ok (.aload_n 0, 1) := by decide +kernel
theorem dX5_cut_153 : decode cX5_cut 153 = .ok (.getfield 35, 3) := by decide +kernel
theorem dX5_cut_156 : decode cX5_cut 156 = .ok (.iload_n 1, 1) := by decide +kernel
theorem dX5_cut_157 : decode cX5_cut 157 = .ok (.iload_n 3, 1) := by decide +kernel
theorem dX5_cut_158 : decode cX5_cut 158 = .ok (.ifCond .eq 8, 3) := by decide +kernel
theorem dX5_cut_161 : decode cX5_cut 161 = .ok (.iload 5, 2) := by decide +kernel
theorem dX5_cut_163 : decode cX5_cut 163 = .ok (.goto 9, 3) := by decide +kernel
theorem dX5_cut_166 : decode cX5_cut 166 = .ok (.aload_n 0, 1) := by decide +kernel
theorem dX5_cut_167 : decode cX5_cut 167 = .ok (.getfield 35, 3) := by decide +kernel
theorem dX5_cut_170 : decode cX5_cut 170 = .ok (.iload_n 2, 1) := by decide +kernel
theorem dX5_cut_171 : decode cX5_cut 171 = .ok (.baload, 1) := by decide +kernel
theorem dX5_cut_172 : decode cX5_cut 172 = .ok (.bastore, 1) := by decide +kernel
theorem dX5_cut_173 : decode cX5_cut 173 = .ok (.aload_n 0, 1) := by decide +kernel
theorem dX5_cut_174 : decode cX5_cut 174 = .ok (.getfield 38, 3) := by decide +kernel
theorem dX5_cut_177 : decode cX5_cut 177 = .ok (.iload_n 1, 1) := by decide +kernel
theorem dX5_cut_178 : decode cX5_cut 178 = .ok (.aload_n 0, 1) := by decide +kernel
theorem dX5_cut_179 : decode cX5_cut 179 = .ok (.getfield 38, 3) := by decide +kernel
theorem dX5_cut_182 : decode cX5_cut 182 = .ok (.iload_n 2, 1) := by decide +kernel
theorem dX5_cut_183 : decode cX5_cut 183 = .ok (.iaload, 1) := by decide +kernel
theorem dX5_cut_184 : decode cX5_cut 184 = .ok (.iconst 1, 1) := by decide +kernel
theorem dX5_cut_185 : decode cX5_cut 185 = .ok (.iadd, 1) := by decide +kernel
theorem dX5_cut_186 : decode cX5_cut 186 = .ok (.iastore, 1) := by decide +kernel
theorem dX5_cut_187 : decode cX5_cut 187 = .ok (.aload_n 0, 1) := by decide +kernel
theorem dX5_cut_188 : decode cX5_cut 188 = .ok (.iload_n 1, 1) := by decide +kernel
theorem dX5_cut_189 : decode cX5_cut 189 = .ok (.invokevirtual 129, 3) := by decide +kernel
theorem dX5_cut_192 : decode cX5_cut 192 = .ok (.ireturn, 1) := by decide +kernel
theorem dX5_viewPut_0 : decode cX5_viewPut 0 = .ok (.aload_n 0, 1) := by decide +kernel
theorem dX5_viewPut_1 : decode cX5_viewPut 1 = .ok (.iload_n 1, 1) := by decide +kernel
theorem dX5_viewPut_2 : decode cX5_viewPut 2 = .ok (.invokestatic 126, 3) := by decide +kernel
theorem dX5_viewPut_5 : decode cX5_viewPut 5 = .ok (.ifCond .ne 7, 3) := by decide +kernel
theorem dX5_viewPut_8 : decode cX5_viewPut 8 = .ok (.iconst 1, 1) := by decide +kernel
theorem dX5_viewPut_9 : decode cX5_viewPut 9 = .ok (.goto 64, 3) := by decide +kernel
theorem dX5_viewPut_12 : decode cX5_viewPut 12 = .ok (.aload_n 0, 1) := by decide +kernel
theorem dX5_viewPut_13 : decode cX5_viewPut 13 = .ok (.getfield 19, 3) := by decide +kernel
theorem dX5_viewPut_16 : decode cX5_viewPut 16 = .ok (.iload_n 1, 1) := by decide +kernel
theorem dX5_viewPut_17 : decode cX5_viewPut 17 = .ok (.baload, 1) := by decide +kernel
theorem dX5_viewPut_18 : decode cX5_viewPut 18 = .ok (.ifCond .ne 7, 3) := by decide +kernel
theorem dX5_viewPut_21 : decode cX5_viewPut 21 = .ok (.iconst 2, 1) := by decide +kernel
theorem dX5_viewPut_22 : decode cX5_viewPut 22 = .ok (.goto 51, 3) := by decide +kernel
theorem dX5_viewPut_25 : decode cX5_viewPut 25 = .ok (.aload_n 0, 1) := by decide +kernel
theorem dX5_viewPut_26 : decode cX5_viewPut 26 = .ok (.iload_n 1, 1) := by decide +kernel
theorem dX5_viewPut_27 : decode cX5_viewPut 27 = .ok (.iload_n 2, 1) := by decide +kernel
theorem dX5_viewPut_28 : decode cX5_viewPut 28 = .ok (.invokevirtual 120, 3) := by decide +kernel
theorem dX5_viewPut_31 : decode cX5_viewPut 31 = .ok (.ifCond .ne 7, 3) := by decide +kernel
theorem dX5_viewPut_34 : decode cX5_viewPut 34 = .ok (.iconst 3, 1) := by decide +kernel
theorem dX5_viewPut_35 : decode cX5_viewPut 35 = .ok (.goto 38, 3) := by decide +kernel
theorem dX5_viewPut_38 : decode cX5_viewPut 38 = .ok (.aload_n 0, 1) := by decide +kernel
theorem dX5_viewPut_39 : decode cX5_viewPut 39 = .ok (.getfield 16, 3) := by decide +kernel
theorem dX5_viewPut_42 : decode cX5_viewPut 42 = .ok (.aload_n 0, 1) := by decide +kernel
theorem dX5_viewPut_43 : decode cX5_viewPut 43 = .ok (.getfield 23, 3) := by decide +kernel
theorem dX5_viewPut_46 : decode cX5_viewPut 46 = .ok (.iload_n 1, 1) := by decide +kernel
theorem dX5_viewPut_47 : decode cX5_viewPut 47 = .ok (.iaload, 1) := by decide +kernel
theorem dX5_viewPut_48 : decode cX5_viewPut 48 = .ok (.iaload, 1) := by decide +kernel
theorem dX5_viewPut_49 : decode cX5_viewPut 49 = .ok (.bipush 60, 2) := by decide +kernel
theorem dX5_viewPut_51 : decode cX5_viewPut 51 = .ok (.if_icmp .ne 21, 3) := by decide +kernel
theorem dX5_viewPut_54 : decode cX5_viewPut 54 = .ok (.aload_n 0, 1) := by decide +kernel
theorem dX5_viewPut_55 : decode cX5_viewPut 55 = .ok (.aload_n 0, 1) := by decide +kernel
theorem dX5_viewPut_56 : decode cX5_viewPut 56 = .ok (.getfield 23, 3) := by decide +kernel
theorem dX5_viewPut_59 : decode cX5_viewPut 59 = .ok (.iload_n 1, 1) := by decide +kernel
theorem dX5_viewPut_60 : decode cX5_viewPut 60 = .ok (.iaload, 1) := by decide +kernel
theorem dX5_viewPut_61 : decode cX5_viewPut 61 = .ok (.iload_n 2, 1) := by decide +kernel
theorem dX5_viewPut_62 : decode cX5_viewPut 62 = .ok (.invokevirtual 91, 3) := by decide +kernel
theorem dX5_viewPut_65 : decode cX5_viewPut 65 = .ok (.ifCond .ne 7, 3) := by decide +kernel
theorem dX5_viewPut_68 : decode cX5_viewPut 68 = .ok (.iconst 4, 1) := by decide +kernel
theorem dX5_viewPut_69 : decode cX5_viewPut 69 = .ok (.goto 4, 3) := by decide +kernel
theorem dX5_viewPut_72 : decode cX5_viewPut 72 = .ok (.iconst 0, 1) := by decide +kernel
theorem dX5_viewPut_73 : decode cX5_viewPut 73 = .ok (.invokevirtual 95, 3) := by decide +kernel
theorem dX5_viewPut_76 : decode cX5_viewPut 76 = .ok (.ifCond .eq 5, 3) := by decide +kernel
theorem dX5_viewPut_79 : decode cX5_viewPut 79 = .ok (.iconst 0, 1) := by decide +kernel
theorem dX5_viewPut_80 : decode cX5_viewPut 80 = .ok (.ireturn, 1) := by decide +kernel
theorem dX5_viewPut_81 : decode cX5_viewPut 81 = .ok (.aload_n 0, 1) := by decide +kernel
theorem dX5_viewPut_82 : decode cX5_viewPut 82 = .ok (.aload_n 0, 1) := by decide +kernel
theorem dX5_viewPut_83 : decode cX5_viewPut 83 = .ok (.getfield 23, 3) := by decide +kernel
theorem dX5_viewPut_86 : decode cX5_viewPut 86 = .ok (.iload_n 1, 1) := by decide +kernel
theorem dX5_viewPut_87 : decode cX5_viewPut 87 = .ok (.iaload, 1) := by decide +kernel
theorem dX5_viewPut_88 : decode cX5_viewPut 88 = .ok (.iload_n 2, 1) := by decide +kernel
theorem dX5_viewPut_89 : decode cX5_viewPut 89 = .ok (.iload_n 3, 1) := by decide +kernel
theorem dX5_viewPut_90 : decode cX5_viewPut 90 = .ok (.invokevirtual 98, 3) := by decide +kernel
theorem dX5_viewPut_93 : decode cX5_viewPut 93 = .ok (.aload_n 0, 1) := by decide +kernel
theorem dX5_viewPut_94 : decode cX5_viewPut 94 = .ok (.iload_n 1, 1) := by decide +kernel
theorem dX5_viewPut_95 : decode cX5_viewPut 95 = .ok (.invokevirtual 129, 3) := by decide +kernel
theorem dX5_viewPut_98 : decode cX5_viewPut 98 = .ok (.ireturn, 1) := by decide +kernel
theorem dX5_viewRemove_0 : decode cX5_viewRemove 0 = .ok (.aload_n 0, 1) := by decide +kernel
theorem dX5_viewRemove_1 : decode cX5_viewRemove 1 = .ok (.iload_n 1, 1) := by decide +kernel
theorem dX5_viewRemove_2 : decode cX5_viewRemove 2 = .ok (.invokestatic 126, 3) := by decide +kernel
theorem dX5_viewRemove_5 : decode cX5_viewRemove 5 = .ok (.ifCond .ne 7, 3) := by decide +kernel
theorem dX5_viewRemove_8 : decode cX5_viewRemove 8 = .ok (.iconst 1, 1) := by decide +kernel
theorem dX5_viewRemove_9 : decode cX5_viewRemove 9 = .ok (.goto 17, 3) := by decide +kernel
theorem dX5_viewRemove_12 : decode cX5_viewRemove 12 = .ok (.aload_n 0, 1) := by decide +kernel
theorem dX5_viewRemove_13 : decode cX5_viewRemove 13 = .ok (.getfield 19, 3) := by decide +kernel
theorem dX5_viewRemove_16 : decode cX5_viewRemove 16 = .ok (.iload_n 1, 1) := by decide +kernel
theorem dX5_viewRemove_17 : decode cX5_viewRemove 17 = .ok (.baload, 1) := by decide +kernel
theorem dX5_viewRemove_18 : decode cX5_viewRemove 18 = .ok (.ifCond .ne 7, 3) := by decide +kernel
theorem dX5_viewRemove_21 : decode cX5_viewRemove 21 = .ok (.iconst 2, 1) := by decide +kernel
theorem dX5_viewRemove_22 : decode cX5_viewRemove 22 = .ok (.goto 4, 3) := by decide +kernel
theorem dX5_viewRemove_25 : decode cX5_viewRemove 25 = .ok (.iconst 0, 1) := by decide +kernel
theorem dX5_viewRemove_26 : decode cX5_viewRemove 26 = .ok (.invokevirtual 95, 3) := by decide +kernel
theorem dX5_viewRemove_29 : decode cX5_viewRemove 29 = .ok (.ifCond .eq 5, 3) := by decide +kernel
theorem dX5_viewRemove_32 : decode cX5_viewRemove 32 = .ok (.iconst 0, 1) := by decide +kernel
theorem dX5_viewRemove_33 : decode cX5_viewRemove 33 = .ok (.ireturn, 1) := by decide +kernel
theorem dX5_viewRemove_34 : decode cX5_viewRemove 34 = .ok (.aload_n 0, 1) := by decide +kernel
theorem dX5_viewRemove_35 : decode cX5_viewRemove 35 = .ok (.iload_n 1, 1) := by decide +kernel
theorem dX5_viewRemove_36 : decode cX5_viewRemove 36 = .ok (.iload_n 2, 1) := by decide +kernel
theorem dX5_viewRemove_37 : decode cX5_viewRemove 37 = .ok (.invokevirtual 120, 3) := by decide +kernel
theorem dX5_viewRemove_40 : decode cX5_viewRemove 40 = .ok (.ifCond .eq 21, 3) := by decide +kernel
theorem dX5_viewRemove_43 : decode cX5_viewRemove 43 = .ok (.aload_n 0, 1) := by decide +kernel
theorem dX5_viewRemove_44 : decode cX5_viewRemove 44 = .ok (.aload_n 0, 1) := by decide +kernel
theorem dX5_viewRemove_45 : decode cX5_viewRemove 45 = .ok (.getfield 23, 3) := by decide +kernel
theorem dX5_viewRemove_48 : decode cX5_viewRemove 48 = .ok (.iload_n 1, 1) := by decide +kernel
theorem dX5_viewRemove_49 : decode cX5_viewRemove 49 = .ok (.iaload, 1) := by decide +kernel
theorem dX5_viewRemove_50 : decode cX5_viewRemove 50 = .ok (.iload_n 2, 1) := by decide +kernel
theorem dX5_viewRemove_51 : decode cX5_viewRemove 51 = .ok (.invokevirtual 91, 3) := by decide +kernel
theorem dX5_viewRemove_54 : decode cX5_viewRemove 54 = .ok (.ifCond .eq 7, 3) := by decide +kernel
theorem dX5_viewRemove_57 : decode cX5_viewRemove 57 = .ok (.iconst 1, 1) := by decide +kernel
theorem dX5_viewRemove_58 : decode cX5_viewRemove 58 = .ok (.goto 4, 3) := by decide +kernel
theorem dX5_viewRemove_61 : decode cX5_viewRemove 61 = .ok (.iconst 0, 1) := by decide +kernel
theorem dX5_viewRemove_62 : decode cX5_viewRemove 62 = .ok (.istore_n 3, 1) := by decide +kernel
theorem dX5_viewRemove_63 : decode cX5_viewRemove 63 = .ok (.iload_n 3, 1) := by decide +kernel
theorem dX5_viewRemove_64 : decode cX5_viewRemove 64 = .ok (.ifCond .eq 24, 3) := by decide +kernel
theorem dX5_viewRemove_67 : decode cX5_viewRemove 67 = .ok (.aload_n 0, 1) := by decide +kernel
theorem dX5_viewRemove_68 : decode cX5_viewRemove 68 = .ok (.aload_n 0, 1) := by decide +kernel
theorem dX5_viewRemove_69 : decode cX5_viewRemove 69 = .ok (.getfield 23, 3) := by decide +kernel
theorem dX5_viewRemove_72 : decode cX5_viewRemove 72 = .ok (.iload_n 1, 1) := by decide +kernel
theorem dX5_viewRemove_73 : decode cX5_viewRemove 73 = .ok (.iaload, 1) := by decide +kernel
theorem dX5_viewRemove_74 : decode cX5_viewRemove 74 = .ok (.aload_n 0, 1) := by decide +kernel
theorem dX5_viewRemove_75 : decode cX5_viewRemove 75 = .ok (.aload_n 0, 1) := by decide +kernel
theorem dX5_viewRemove_76 : decode cX5_viewRemove 76 = .ok (.getfield 23, 3) := by decide +kernel
theorem dX5_viewRemove_79 : decode cX5_viewRemove 79 = .ok (.iload_n 1, 1) := by decide +kernel
theorem dX5_viewRemove_80 : decode cX5_viewRemove 80 = .ok (.iaload, 1) := by decide +kernel
theorem dX5_viewRemove_81 : decode cX5_viewRemove 81 = .ok (.iload_n 2, 1) := by decide +kernel
theorem dX5_viewRemove_82 : decode cX5_viewRemove 82 = .ok (.invokevirtual 68, 3) := by decide +kernel
theorem dX5_viewRemove_85 : decode cX5_viewRemove 85 = .ok (.invokevirtual 79, 3) := by decide +kernel
theorem dX5_viewRemove_88 : decode cX5_viewRemove 88 = .ok (.iload_n 3, 1) := by decide +kernel
theorem dX5_viewRemove_89 : decode cX5_viewRemove 89 = .ok (.ireturn, 1) := by decide +kernel
theorem dX5_viewNearAt_0 : decode cX5_viewNearAt 0 = .ok (.aload_n 0, 1) := by decide +kernel
theorem dX5_viewNearAt_1 : decode cX5_viewNearAt 1 = .ok (.aload_n 0, 1) := by decide +kernel
theorem dX5_viewNearAt_2 : decode cX5_viewNearAt 2 = .ok (.getfield 23, 3) := by decide +kernel
theorem dX5_viewNearAt_5 : decode cX5_viewNearAt 5 = .ok (.iload_n 1, 1) := by decide +kernel
theorem dX5_viewNearAt_6 : decode cX5_viewNearAt 6 = .ok (.iaload, 1) := by decide +kernel
theorem dX5_viewNearAt_7 : decode cX5_viewNearAt 7 = .ok (.aload_n 0, 1) := by decide +kernel
theorem dX5_viewNearAt_8 : decode cX5_viewNearAt 8 = .ok (.iload_n 1, 1) := by decide +kernel
theorem dX5_viewNearAt_9 : decode cX5_viewNearAt 9 = .ok (.invokevirtual 116, 3) := by decide +kernel
theorem dX5_viewNearAt_12 : decode cX5_viewNearAt 12 = .ok (.aload_n 0, 1) := by decide +kernel
theorem dX5_viewNearAt_13 : decode cX5_viewNearAt 13 = .ok (.iload_n 1, 1) := by decide +kernel
theorem dX5_viewNearAt_14 : decode cX5_viewNearAt 14 = .ok (.invokevirtual 123, 3) := by decide +kernel
theorem dX5_viewNearAt_17 : decode cX5_viewNearAt 17 = .ok (.iload_n 2, 1) := by decide +kernel
theorem dX5_viewNearAt_18 : decode cX5_viewNearAt 18 = .ok (.iload_n 3, 1) := by decide +kernel
theorem dX5_viewNearAt_19 : decode cX5_viewNearAt 19 = .ok (.invokevirtual 106, 3) := by decide +kernel
theorem dX5_viewNearAt_22 : decode cX5_viewNearAt 22 = .ok (.ireturn, 1) := by decide +kernel
theorem dX5_viewNear_0 : decode cX5_viewNear 0 = .ok (.aload_n 0, 1) := by decide +kernel
theorem dX5_viewNear_1 : decode cX5_viewNear 1 = .ok (.iload_n 1, 1) := by decide +kernel
theorem dX5_viewNear_2 : decode cX5_viewNear 2 = .ok (.invokestatic 126, 3) := by decide +kernel
theorem dX5_viewNear_5 : decode cX5_viewNear 5 = .ok (.ifCond .ne 7, 3) := by decide +kernel
theorem dX5_viewNear_8 : decode cX5_viewNear 8 = .ok (.iconst 1, 1) := by decide +kernel
theorem dX5_viewNear_9 : decode cX5_viewNear 9 = .ok (.goto 38, 3) := by decide +kernel
theorem dX5_viewNear_12 : decode cX5_viewNear 12 = .ok (.iload_n 3, 1) := by decide +kernel
theorem dX5_viewNear_13 : decode cX5_viewNear 13 = .ok (.invokestatic 102, 3) := by decide +kernel
theorem dX5_viewNear_16 : decode cX5_viewNear 16 = .ok (.ifCond .ne 7, 3) := by decide +kernel
theorem dX5_viewNear_19 : decode cX5_viewNear 19 = .ok (.iconst 2, 1) := by decide +kernel
theorem dX5_viewNear_20 : decode cX5_viewNear 20 = .ok (.goto 27, 3) := by decide +kernel
theorem dX5_viewNear_23 : decode cX5_viewNear 23 = .ok (.aload_n 0, 1) := by decide +kernel
theorem dX5_viewNear_24 : decode cX5_viewNear 24 = .ok (.getfield 19, 3) := by decide +kernel
theorem dX5_viewNear_27 : decode cX5_viewNear 27 = .ok (.iload_n 1, 1) := by decide +kernel
theorem dX5_viewNear_28 : decode cX5_viewNear 28 = .ok (.baload, 1) := by decide +kernel
theorem dX5_viewNear_29 : decode cX5_viewNear 29 = .ok (.ifCond .eq 13, 3) := by decide +kernel
theorem dX5_viewNear_32 : decode cX5_viewNear 32 = .ok (.aload_n 0, 1) := by decide +kernel
theorem dX5_viewNear_33 : decode cX5_viewNear 33 = .ok (.iload_n 1, 1) := by decide +kernel
theorem dX5_viewNear_34 : decode cX5_viewNear 34 = .ok (.iload_n 2, 1) := by decide +kernel
theorem dX5_viewNear_35 : decode cX5_viewNear 35 = .ok (.iload_n 3, 1) := by decide +kernel
theorem dX5_viewNear_36 : decode cX5_viewNear 36 = .ok (.invokevirtual 132, 3) := by decide +kernel
theorem dX5_viewNear_39 : decode cX5_viewNear 39 = .ok (.ifCond .ge 7, 3) := by decide +kernel
theorem dX5_viewNear_42 : decode cX5_viewNear 42 = .ok (.iconst 3, 1) := by decide +kernel
theorem dX5_viewNear_43 : decode cX5_viewNear 43 = .ok (.goto 4, 3) := by decide +kernel
theorem dX5_viewNear_46 : decode cX5_viewNear 46 = .ok (.iconst 0, 1) := by decide +kernel
theorem dX5_viewNear_47 : decode cX5_viewNear 47 = .ok (.invokevirtual 95, 3) := by decide +kernel
theorem dX5_viewNear_50 : decode cX5_viewNear 50 = .ok (.ifCond .eq 5, 3) := by decide +kernel
theorem dX5_viewNear_53 : decode cX5_viewNear 53 = .ok (.iconst 0, 1) := by decide +kernel
theorem dX5_viewNear_54 : decode cX5_viewNear 54 = .ok (.ireturn, 1) := by decide +kernel
theorem dX5_viewNear_55 : decode cX5_viewNear 55 = .ok (.aload_n 0, 1) := by decide +kernel
theorem dX5_viewNear_56 : decode cX5_viewNear 56 = .ok (.getfield 7, 3) := by decide +kernel
theorem dX5_viewNear_59 : decode cX5_viewNear 59 = .ok (.bipush 60, 2) := by decide +kernel
theorem dX5_viewNear_61 : decode cX5_viewNear 61 = .ok (.aload_n 0, 1) := by decide +kernel
theorem dX5_viewNear_62 : decode cX5_viewNear 62 = .ok (.getfield 23, 3) := by decide +kernel
theorem dX5_viewNear_65 : decode cX5_viewNear 65 = .ok (.iload_n 1, 1) := by decide +kernel
theorem dX5_viewNear_66 : decode cX5_viewNear 66 = .ok (.iaload, 1) := by decide +kernel
theorem dX5_viewNear_67 : decode cX5_viewNear 67 = .ok (.imul, 1) := by decide +kernel
theorem dX5_viewNear_68 : decode cX5_viewNear 68 = .ok (.aload_n 0, 1) := by decide +kernel
theorem dX5_viewNear_69 : decode cX5_viewNear 69 = .ok (.iload_n 1, 1) := by decide +kernel
theorem dX5_viewNear_70 : decode cX5_viewNear 70 = .ok (.iload_n 2, 1) := by decide +kernel
theorem dX5_viewNear_71 : decode cX5_viewNear 71 = .ok (.iload_n 3, 1) := by decide +kernel
theorem dX5_viewNear_72 : decode cX5_viewNear 72 = .ok (.invokevirtual 132, 3) := by decide +kernel
theorem dX5_viewNear_75 : decode cX5_viewNear 75 = .ok (.iadd, 1) := by decide +kernel
theorem dX5_viewNear_76 : decode cX5_viewNear 76 = .ok (.iaload, 1) := by decide +kernel
theorem dX5_viewNear_77 : decode cX5_viewNear 77 = .ok (.ireturn, 1) := by decide +kernel
theorem dX5_viewEnd_0 : decode cX5_viewEnd 0 = .ok (.aload_n 0, 1) := by decide +kernel
theorem dX5_viewEnd_1 : decode cX5_viewEnd 1 = .ok (.iload_n 1, 1) := by decide +kernel
theorem dX5_viewEnd_2 : decode cX5_viewEnd 2 = .ok (.invokestatic 126, 3) := by decide +kernel
theorem dX5_viewEnd_5 : decode cX5_viewEnd 5 = .ok (.ifCond .ne 7, 3) := by decide +kernel
theorem dX5_viewEnd_8 : decode cX5_viewEnd 8 = .ok (.iconst 1, 1) := by decide +kernel
theorem dX5_viewEnd_9 : decode cX5_viewEnd 9 = .ok (.goto 25, 3) := by decide +kernel
theorem dX5_viewEnd_12 : decode cX5_viewEnd 12 = .ok (.aload_n 0, 1) := by decide +kernel
theorem dX5_viewEnd_13 : decode cX5_viewEnd 13 = .ok (.getfield 19, 3) := by decide +kernel
theorem dX5_viewEnd_16 : decode cX5_viewEnd 16 = .ok (.iload_n 1, 1) := by decide +kernel
theorem dX5_viewEnd_17 : decode cX5_viewEnd 17 = .ok (.baload, 1) := by decide +kernel
theorem dX5_viewEnd_18 : decode cX5_viewEnd 18 = .ok (.ifCond .eq 11, 3) := by decide +kernel
theorem dX5_viewEnd_21 : decode cX5_viewEnd 21 = .ok (.aload_n 0, 1) := by decide +kernel
theorem dX5_viewEnd_22 : decode cX5_viewEnd 22 = .ok (.iload_n 1, 1) := by decide +kernel
theorem dX5_viewEnd_23 : decode cX5_viewEnd 23 = .ok (.invokevirtual 129, 3) := by decide +kernel
theorem dX5_viewEnd_26 : decode cX5_viewEnd 26 = .ok (.ifCond .ne 7, 3) := by decide +kernel
theorem dX5_viewEnd_29 : decode cX5_viewEnd 29 = .ok (.iconst 2, 1) := by decide +kernel
theorem dX5_viewEnd_30 : decode cX5_viewEnd 30 = .ok (.goto 4, 3) := by decide +kernel
theorem dX5_viewEnd_33 : decode cX5_viewEnd 33 = .ok (.iconst 0, 1) := by decide +kernel
theorem dX5_viewEnd_34 : decode cX5_viewEnd 34 = .ok (.invokevirtual 95, 3) := by decide +kernel
theorem dX5_viewEnd_37 : decode cX5_viewEnd 37 = .ok (.ifCond .eq 5, 3) := by decide +kernel
theorem dX5_viewEnd_40 : decode cX5_viewEnd 40 = .ok (.iconst 0, 1) := by decide +kernel
theorem dX5_viewEnd_41 : decode cX5_viewEnd 41 = .ok (.ireturn, 1) := by decide +kernel
theorem dX5_viewEnd_42 : decode cX5_viewEnd 42 = .ok (.aload_n 0, 1) := by decide +kernel
theorem dX5_viewEnd_43 : decode cX5_viewEnd 43 = .ok (.getfield 7, 3) := by decide +kernel
theorem dX5_viewEnd_46 : decode cX5_viewEnd 46 = .ok (.bipush 60, 2) := by decide +kernel
theorem dX5_viewEnd_48 : decode cX5_viewEnd 48 = .ok (.aload_n 0, 1) := by decide +kernel
theorem dX5_viewEnd_49 : decode cX5_viewEnd 49 = .ok (.getfield 23, 3) := by decide +kernel
theorem dX5_viewEnd_52 : decode cX5_viewEnd 52 = .ok (.iload_n 1, 1) := by decide +kernel
theorem dX5_viewEnd_53 : decode cX5_viewEnd 53 = .ok (.iaload, 1) := by decide +kernel
theorem dX5_viewEnd_54 : decode cX5_viewEnd 54 = .ok (.imul, 1) := by decide +kernel
theorem dX5_viewEnd_55 : decode cX5_viewEnd 55 = .ok (.iload_n 2, 1) := by decide +kernel
theorem dX5_viewEnd_56 : decode cX5_viewEnd 56 = .ok (.ifCond .eq 13, 3) := by decide +kernel
theorem dX5_viewEnd_59 : decode cX5_viewEnd 59 = .ok (.aload_n 0, 1) := by decide +kernel
end
section
theorem dX5_viewEnd_60 : decode cX5_viewEnd 60 = .ok (.iload_n 1, 1) := by decide +kernel
theorem dX5_viewEnd_61 : decode cX5_viewEnd 61 = .ok (.invokevirtual 123, 3) := by decide +kernel
theorem dX5_viewEnd_64 : decode cX5_viewEnd 64 = .ok (.iconst 1, 1) := by decide +kernel
theorem dX5_viewEnd_65 : decode cX5_viewEnd 65 = .ok (.isub, 1) := by decide +kernel
theorem dX5_viewEnd_66 : decode cX5_viewEnd 66 = .ok (.goto 8, 3) := by decide +kernel
theorem dX5_viewEnd_69 : decode cX5_viewEnd 69 = .ok (.aload_n 0, 1) := by decide +kernel
theorem dX5_viewEnd_70 : decode cX5_viewEnd 70 = .ok (.iload_n 1, 1) := by decide +kernel
theorem dX5_viewEnd_71 : decode cX5_viewEnd 71 = .ok (.invokevirtual 116, 3) := by decide +kernel
theorem dX5_viewEnd_74 : decode cX5_viewEnd 74 = .ok (.iadd, 1) := by decide +kernel
theorem dX5_viewEnd_75 : decode cX5_viewEnd 75 = .ok (.iaload, 1) := by decide +kernel
theorem dX5_viewEnd_76 : decode cX5_viewEnd 76 = .ok (.ireturn, 1) := by decide +kernel
theorem dX5_viewPoll_0 : decode cX5_viewPoll 0 = .ok (.aload_n 0, 1) := by decide +kernel
theorem dX5_viewPoll_1 : decode cX5_viewPoll 1 = .ok (.iload_n 1, 1) := by decide +kernel
theorem dX5_viewPoll_2 : decode cX5_viewPoll 2 = .ok (.invokestatic 126, 3) := by decide +kernel
theorem dX5_viewPoll_5 : decode cX5_viewPoll 5 = .ok (.ifCond .ne 7, 3) := by decide +kernel
theorem dX5_viewPoll_8 : decode cX5_viewPoll 8 = .ok (.iconst 1, 1) := by decide +kernel
theorem dX5_viewPoll_9 : decode cX5_viewPoll 9 = .ok (.goto 25, 3) := by decide +kernel
theorem dX5_viewPoll_12 : decode cX5_viewPoll 12 = .ok (.aload_n 0, 1) := by decide +kernel
theorem dX5_viewPoll_13 : decode cX5_viewPoll 13 = .ok (.getfield 19, 3) := by decide +kernel
theorem dX5_viewPoll_16 : decode cX5_viewPoll 16 = .ok (.iload_n 1, 1) := by decide +kernel
theorem dX5_viewPoll_17 : decode cX5_viewPoll 17 = .ok (.baload, 1) := by decide +kernel
theorem dX5_viewPoll_18 : decode cX5_viewPoll 18 = .ok (.ifCond .eq 11, 3) := by decide +kernel
theorem dX5_viewPoll_21 : decode cX5_viewPoll 21 = .ok (.aload_n 0, 1) := by decide +kernel
theorem dX5_viewPoll_22 : decode cX5_viewPoll 22 = .ok (.iload_n 1, 1) := by decide +kernel
theorem dX5_viewPoll_23 : decode cX5_viewPoll 23 = .ok (.invokevirtual 129, 3) := by decide +kernel
theorem dX5_viewPoll_26 : decode cX5_viewPoll 26 = .ok (.ifCond .ne 7, 3) := by decide +kernel
theorem dX5_viewPoll_29 : decode cX5_viewPoll 29 = .ok (.iconst 2, 1) := by decide +kernel
theorem dX5_viewPoll_30 : decode cX5_viewPoll 30 = .ok (.goto 4, 3) := by decide +kernel
theorem dX5_viewPoll_33 : decode cX5_viewPoll 33 = .ok (.iconst 0, 1) := by decide +kernel
theorem dX5_viewPoll_34 : decode cX5_viewPoll 34 = .ok (.invokevirtual 95, 3) := by decide +kernel
theorem dX5_viewPoll_37 : decode cX5_viewPoll 37 = .ok (.ifCond .eq 5, 3) := by decide +kernel
theorem dX5_viewPoll_40 : decode cX5_viewPoll 40 = .ok (.iconst 0, 1) := by decide +kernel
theorem dX5_viewPoll_41 : decode cX5_viewPoll 41 = .ok (.ireturn, 1) := by decide +kernel
theorem dX5_viewPoll_42 : decode cX5_viewPoll 42 = .ok (.aload_n 0, 1) := by decide +kernel
theorem dX5_viewPoll_43 : decode cX5_viewPoll 43 = .ok (.aload_n 0, 1) := by decide +kernel
theorem dX5_viewPoll_44 : decode cX5_viewPoll 44 = .ok (.getfield 23, 3) := by decide +kernel
theorem dX5_viewPoll_47 : decode cX5_viewPoll 47 = .ok (.iload_n 1, 1) := by decide +kernel
theorem dX5_viewPoll_48 : decode cX5_viewPoll 48 = .ok (.iaload, 1) := by decide +kernel
theorem dX5_viewPoll_49 : decode cX5_viewPoll 49 = .ok (.iload_n 2, 1) := by decide +kernel
theorem dX5_viewPoll_50 : decode cX5_viewPoll 50 = .ok (.ifCond .eq 13, 3) := by decide +kernel
theorem dX5_viewPoll_53 : decode cX5_viewPoll 53 = .ok (.aload_n 0, 1) := by decide +kernel
theorem dX5_viewPoll_54 : decode cX5_viewPoll 54 = .ok (.iload_n 1, 1) := by decide +kernel
theorem dX5_viewPoll_55 : decode cX5_viewPoll 55 = .ok (.invokevirtual 123, 3) := by decide +kernel
theorem dX5_viewPoll_58 : decode cX5_viewPoll 58 = .ok (.iconst 1, 1) := by decide +kernel
theorem dX5_viewPoll_59 : decode cX5_viewPoll 59 = .ok (.isub, 1) := by decide +kernel
theorem dX5_viewPoll_60 : decode cX5_viewPoll 60 = .ok (.goto 8, 3) := by decide +kernel
theorem dX5_viewPoll_63 : decode cX5_viewPoll 63 = .ok (.aload_n 0, 1) := by decide +kernel
theorem dX5_viewPoll_64 : decode cX5_viewPoll 64 = .ok (.iload_n 1, 1) := by decide +kernel
theorem dX5_viewPoll_65 : decode cX5_viewPoll 65 = .ok (.invokevirtual 116, 3) := by decide +kernel
theorem dX5_viewPoll_68 : decode cX5_viewPoll 68 = .ok (.invokevirtual 110, 3) := by decide +kernel
theorem dX5_viewPoll_71 : decode cX5_viewPoll 71 = .ok (.ireturn, 1) := by decide +kernel
theorem dX5_viewClear_0 : decode cX5_viewClear 0 = .ok (.aload_n 0, 1) := by decide +kernel
theorem dX5_viewClear_1 : decode cX5_viewClear 1 = .ok (.iload_n 1, 1) := by decide +kernel
theorem dX5_viewClear_2 : decode cX5_viewClear 2 = .ok (.invokestatic 126, 3) := by decide +kernel
theorem dX5_viewClear_5 : decode cX5_viewClear 5 = .ok (.ifCond .ne 7, 3) := by decide +kernel
theorem dX5_viewClear_8 : decode cX5_viewClear 8 = .ok (.iconst 1, 1) := by decide +kernel
theorem dX5_viewClear_9 : decode cX5_viewClear 9 = .ok (.goto 17, 3) := by decide +kernel
theorem dX5_viewClear_12 : decode cX5_viewClear 12 = .ok (.aload_n 0, 1) := by decide +kernel
theorem dX5_viewClear_13 : decode cX5_viewClear 13 = .ok (.getfield 19, 3) := by decide +kernel
theorem dX5_viewClear_16 : decode cX5_viewClear 16 = .ok (.iload_n 1, 1) := by decide +kernel
theorem dX5_viewClear_17 : decode cX5_viewClear 17 = .ok (.baload, 1) := by decide +kernel
theorem dX5_viewClear_18 : decode cX5_viewClear 18 = .ok (.ifCond .ne 7, 3) := by decide +kernel
theorem dX5_viewClear_21 : decode cX5_viewClear 21 = .ok (.iconst 2, 1) := by decide +kernel
theorem dX5_viewClear_22 : decode cX5_viewClear 22 = .ok (.goto 4, 3) := by decide +kernel
theorem dX5_viewClear_25 : decode cX5_viewClear 25 = .ok (.iconst 0, 1) := by decide +kernel
theorem dX5_viewClear_26 : decode cX5_viewClear 26 = .ok (.invokevirtual 95, 3) := by decide +kernel
theorem dX5_viewClear_29 : decode cX5_viewClear 29 = .ok (.ifCond .eq 5, 3) := by decide +kernel
theorem dX5_viewClear_32 : decode cX5_viewClear 32 = .ok (.iconst 0, 1) := by decide +kernel
theorem dX5_viewClear_33 : decode cX5_viewClear 33 = .ok (.ireturn, 1) := by decide +kernel
theorem dX5_viewClear_34 : decode cX5_viewClear 34 = .ok (.aload_n 0, 1) := by decide +kernel
theorem dX5_viewClear_35 : decode cX5_viewClear 35 = .ok (.iload_n 1, 1) := by decide +kernel
theorem dX5_viewClear_36 : decode cX5_viewClear 36 = .ok (.invokevirtual 129, 3) := by decide +kernel
theorem dX5_viewClear_39 : decode cX5_viewClear 39 = .ok (.istore_n 2, 1) := by decide +kernel
theorem dX5_viewClear_40 : decode cX5_viewClear 40 = .ok (.aload_n 0, 1) := by decide +kernel
theorem dX5_viewClear_41 : decode cX5_viewClear 41 = .ok (.iload_n 1, 1) := by decide +kernel
theorem dX5_viewClear_42 : decode cX5_viewClear 42 = .ok (.invokevirtual 116, 3) := by decide +kernel
theorem dX5_viewClear_45 : decode cX5_viewClear 45 = .ok (.istore_n 3, 1) := by decide +kernel
theorem dX5_viewClear_46 : decode cX5_viewClear 46 = .ok (.iconst 0, 1) := by decide +kernel
theorem dX5_viewClear_47 : decode cX5_viewClear 47 = .ok (.istore 4, 2) := by decide +kernel
theorem dX5_viewClear_49 : decode cX5_viewClear 49 = .ok (.iload 4, 2) := by decide +kernel
theorem dX5_viewClear_51 : decode cX5_viewClear 51 = .ok (.iload_n 2, 1) := by decide +kernel
theorem dX5_viewClear_52 : decode cX5_viewClear 52 = .ok (.if_icmp .ge 20, 3) := by decide +kernel
theorem dX5_viewClear_55 : decode cX5_viewClear 55 = .ok (.aload_n 0, 1) := by decide +kernel
theorem dX5_viewClear_56 : decode cX5_viewClear 56 = .ok (.aload_n 0, 1) := by decide +kernel
theorem dX5_viewClear_57 : decode cX5_viewClear 57 = .ok (.getfield 23, 3) := by decide +kernel
theorem dX5_viewClear_60 : decode cX5_viewClear 60 = .ok (.iload_n 1, 1) := by decide +kernel
theorem dX5_viewClear_61 : decode cX5_viewClear 61 = .ok (.iaload, 1) := by decide +kernel
theorem dX5_viewClear_62 : decode cX5_viewClear 62 = .ok (.iload_n 3, 1) := by decide +kernel
theorem dX5_viewClear_63 : decode cX5_viewClear 63 = .ok (.invokevirtual 79, 3) := by decide +kernel
theorem dX5_viewClear_66 : decode cX5_viewClear 66 = .ok (.iinc 4 1, 3) := by decide +kernel
theorem dX5_viewClear_69 : decode cX5_viewClear 69 = .ok (.goto (-20), 3) := by decide +kernel
theorem dX5_viewClear_72 : decode cX5_viewClear 72 = .ok (.iload_n 2, 1) := by decide +kernel
theorem dX5_viewClear_73 : decode cX5_viewClear 73 = .ok (.ireturn, 1) := by decide +kernel
theorem dX5_viewSize_0 : decode cX5_viewSize 0 = .ok (.aload_n 0, 1) := by decide +kernel
theorem dX5_viewSize_1 : decode cX5_viewSize 1 = .ok (.iload_n 1, 1) := by decide +kernel
theorem dX5_viewSize_2 : decode cX5_viewSize 2 = .ok (.invokestatic 126, 3) := by decide +kernel
theorem dX5_viewSize_5 : decode cX5_viewSize 5 = .ok (.ifCond .ne 7, 3) := by decide +kernel
theorem dX5_viewSize_8 : decode cX5_viewSize 8 = .ok (.iconst 1, 1) := by decide +kernel
theorem dX5_viewSize_9 : decode cX5_viewSize 9 = .ok (.goto 4, 3) := by decide +kernel
theorem dX5_viewSize_12 : decode cX5_viewSize 12 = .ok (.iconst 0, 1) := by decide +kernel
theorem dX5_viewSize_13 : decode cX5_viewSize 13 = .ok (.invokevirtual 95, 3) := by decide +kernel
theorem dX5_viewSize_16 : decode cX5_viewSize 16 = .ok (.ifCond .eq 7, 3) := by decide +kernel
theorem dX5_viewSize_19 : decode cX5_viewSize 19 = .ok (.iconst 0, 1) := by decide +kernel
theorem dX5_viewSize_20 : decode cX5_viewSize 20 = .ok (.goto 21, 3) := by decide +kernel
theorem dX5_viewSize_23 : decode cX5_viewSize 23 = .ok (.aload_n 0, 1) := by decide +kernel
theorem dX5_viewSize_24 : decode cX5_viewSize 24 = .ok (.getfield 19, 3) := by decide +kernel
theorem dX5_viewSize_27 : decode cX5_viewSize 27 = .ok (.iload_n 1, 1) := by decide +kernel
theorem dX5_viewSize_28 : decode cX5_viewSize 28 = .ok (.baload, 1) := by decide +kernel
theorem dX5_viewSize_29 : decode cX5_viewSize 29 = .ok (.ifCond .eq 11, 3) := by decide +kernel
theorem dX5_viewSize_32 : decode cX5_viewSize 32 = .ok (.aload_n 0, 1) := by decide +kernel
theorem dX5_viewSize_33 : decode cX5_viewSize 33 = .ok (.iload_n 1, 1) := by decide +kernel
theorem dX5_viewSize_34 : decode cX5_viewSize 34 = .ok (.invokevirtual 129, 3) := by decide +kernel
theorem dX5_viewSize_37 : decode cX5_viewSize 37 = .ok (.goto 4, 3) := by decide +kernel
theorem dX5_viewSize_40 : decode cX5_viewSize 40 = .ok (.iconst (-1), 1) := by decide +kernel
theorem dX5_viewSize_41 : decode cX5_viewSize 41 = .ok (.ireturn, 1) := by decide +kernel
theorem dX5_lies_0 : decode cX5_lies 0 = .ok (.aload_n 0, 1) := by decide +kernel
theorem dX5_lies_1 : decode cX5_lies 1 = .ok (.iload_n 1, 1) := by decide +kernel
theorem dX5_lies_2 : decode cX5_lies 2 = .ok (.invokestatic 126, 3) := by decide +kernel
theorem dX5_lies_5 : decode cX5_lies 5 = .ok (.ifCond .ne 7, 3) := by decide +kernel
theorem dX5_lies_8 : decode cX5_lies 8 = .ok (.iconst 1, 1) := by decide +kernel
theorem dX5_lies_9 : decode cX5_lies 9 = .ok (.goto 17, 3) := by decide +kernel
theorem dX5_lies_12 : decode cX5_lies 12 = .ok (.aload_n 0, 1) := by decide +kernel
theorem dX5_lies_13 : decode cX5_lies 13 = .ok (.getfield 19, 3) := by decide +kernel
theorem dX5_lies_16 : decode cX5_lies 16 = .ok (.iload_n 1, 1) := by decide +kernel
theorem dX5_lies_17 : decode cX5_lies 17 = .ok (.baload, 1) := by decide +kernel
theorem dX5_lies_18 : decode cX5_lies 18 = .ok (.ifCond .ne 7, 3) := by decide +kernel
theorem dX5_lies_21 : decode cX5_lies 21 = .ok (.iconst 2, 1) := by decide +kernel
theorem dX5_lies_22 : decode cX5_lies 22 = .ok (.goto 4, 3) := by decide +kernel
theorem dX5_lies_25 : decode cX5_lies 25 = .ok (.iconst 0, 1) := by decide +kernel
theorem dX5_lies_26 : decode cX5_lies 26 = .ok (.invokevirtual 95, 3) := by decide +kernel
theorem dX5_lies_29 : decode cX5_lies 29 = .ok (.ifCond .ne 16, 3) := by decide +kernel
theorem dX5_lies_32 : decode cX5_lies 32 = .ok (.aload_n 0, 1) := by decide +kernel
theorem dX5_lies_33 : decode cX5_lies 33 = .ok (.iload_n 1, 1) := by decide +kernel
theorem dX5_lies_34 : decode cX5_lies 34 = .ok (.iload_n 2, 1) := by decide +kernel
theorem dX5_lies_35 : decode cX5_lies 35 = .ok (.invokevirtual 120, 3) := by decide +kernel
theorem dX5_lies_38 : decode cX5_lies 38 = .ok (.ifCond .eq 7, 3) := by decide +kernel
theorem dX5_lies_41 : decode cX5_lies 41 = .ok (.iconst 1, 1) := by decide +kernel
theorem dX5_lies_42 : decode cX5_lies 42 = .ok (.goto 4, 3) := by decide +kernel
theorem dX5_lies_45 : decode cX5_lies 45 = .ok (.iconst 0, 1) := by decide +kernel
theorem dX5_lies_46 : decode cX5_lies 46 = .ok (.ireturn, 1) := by decide +kernel
theorem dX5_step_0 : decode cX5_step 0 = .ok (.iload_n 2, 1) := by decide +kernel
theorem dX5_step_1 : decode cX5_step 1 = .ok (.bipush 112, 2) := by decide +kernel
theorem dX5_step_3 : decode cX5_step 3 = .ok (.if_icmp .eq 27, 3) := by decide +kernel
theorem dX5_step_6 : decode cX5_step 6 = .ok (.iload_n 2, 1) := by decide +kernel
theorem dX5_step_7 : decode cX5_step 7 = .ok (.bipush 114, 2) := by decide +kernel
theorem dX5_step_9 : decode cX5_step 9 = .ok (.if_icmp .eq 21, 3) := by decide +kernel
theorem dX5_step_12 : decode cX5_step 12 = .ok (.iload_n 2, 1) := by decide +kernel
theorem dX5_step_13 : decode cX5_step 13 = .ok (.bipush 115, 2) := by decide +kernel
theorem dX5_step_15 : decode cX5_step 15 = .ok (.if_icmp .eq 15, 3) := by decide +kernel
theorem dX5_step_18 : decode cX5_step 18 = .ok (.iload_n 2, 1) := by decide +kernel
theorem dX5_step_19 : decode cX5_step 19 = .ok (.bipush 97, 2) := by decide +kernel
theorem dX5_step_21 : decode cX5_step 21 = .ok (.if_icmp .eq 9, 3) := by decide +kernel
theorem dX5_step_24 : decode cX5_step 24 = .ok (.iload_n 2, 1) := by decide +kernel
theorem dX5_step_25 : decode cX5_step 25 = .ok (.bipush 120, 2) := by decide +kernel
theorem dX5_step_27 : decode cX5_step 27 = .ok (.if_icmp .ne 7, 3) := by decide +kernel
theorem dX5_step_30 : decode cX5_step 30 = .ok (.iconst 1, 1) := by decide +kernel
theorem dX5_step_31 : decode cX5_step 31 = .ok (.goto 4, 3) := by decide +kernel
theorem dX5_step_34 : decode cX5_step 34 = .ok (.iconst 0, 1) := by decide +kernel
theorem dX5_step_35 : decode cX5_step 35 = .ok (.istore 5, 2) := by decide +kernel
theorem dX5_step_37 : decode cX5_step 37 = .ok (.aload_n 0, 1) := by decide +kernel
theorem dX5_step_38 : decode cX5_step 38 = .ok (.iload_n 1, 1) := by decide +kernel
theorem dX5_step_39 : decode cX5_step 39 = .ok (.invokestatic 136, 3) := by decide +kernel
theorem dX5_step_42 : decode cX5_step 42 = .ok (.ifCond .ne 7, 3) := by decide +kernel
theorem dX5_step_45 : decode cX5_step 45 = .ok (.iconst 1, 1) := by decide +kernel
theorem dX5_step_46 : decode cX5_step 46 = .ok (.goto 28, 3) := by decide +kernel
theorem dX5_step_49 : decode cX5_step 49 = .ok (.iload 5, 2) := by decide +kernel
theorem dX5_step_51 : decode cX5_step 51 = .ok (.ifCond .ne 7, 3) := by decide +kernel
theorem dX5_step_54 : decode cX5_step 54 = .ok (.iconst 2, 1) := by decide +kernel
theorem dX5_step_55 : decode cX5_step 55 = .ok (.goto 19, 3) := by decide +kernel
theorem dX5_step_58 : decode cX5_step 58 = .ok (.aload_n 0, 1) := by decide +kernel
theorem dX5_step_59 : decode cX5_step 59 = .ok (.getfield 51, 3) := by decide +kernel
theorem dX5_step_62 : decode cX5_step 62 = .ok (.iload_n 1, 1) := by decide +kernel
theorem dX5_step_63 : decode cX5_step 63 = .ok (.iaload, 1) := by decide +kernel
theorem dX5_step_64 : decode cX5_step 64 = .ok (.bipush 30, 2) := by decide +kernel
theorem dX5_step_66 : decode cX5_step 66 = .ok (.if_icmp .ne 7, 3) := by decide +kernel
theorem dX5_step_69 : decode cX5_step 69 = .ok (.iconst 3, 1) := by decide +kernel
theorem dX5_step_70 : decode cX5_step 70 = .ok (.goto 4, 3) := by decide +kernel
theorem dX5_step_73 : decode cX5_step 73 = .ok (.iconst 0, 1) := by decide +kernel
theorem dX5_step_74 : decode cX5_step 74 = .ok (.invokevirtual 95, 3) := by decide +kernel
theorem dX5_step_77 : decode cX5_step 77 = .ok (.ifCond .eq 5, 3) := by decide +kernel
theorem dX5_step_80 : decode cX5_step 80 = .ok (.iconst 0, 1) := by decide +kernel
theorem dX5_step_81 : decode cX5_step 81 = .ok (.ireturn, 1) := by decide +kernel
theorem dX5_step_82 : decode cX5_step 82 = .ok (.aload_n 0, 1) := by decide +kernel
theorem dX5_step_83 : decode cX5_step 83 = .ok (.iload_n 1, 1) := by decide +kernel
theorem dX5_step_84 : decode cX5_step 84 = .ok (.iload_n 2, 1) := by decide +kernel
theorem dX5_step_85 : decode cX5_step 85 = .ok (.iload_n 3, 1) := by decide +kernel
theorem dX5_step_86 : decode cX5_step 86 = .ok (.iload 4, 2) := by decide +kernel
theorem dX5_step_88 : decode cX5_step 88 = .ok (.invokevirtual 139, 3) := by decide +kernel
theorem dX5_step_91 : decode cX5_step 91 = .ok (.aload_n 0, 1) := by decide +kernel
theorem dX5_step_92 : decode cX5_step 92 = .ok (.getfield 51, 3) := by decide +kernel
theorem dX5_step_95 : decode cX5_step 95 = .ok (.iload_n 1, 1) := by decide +kernel
theorem dX5_step_96 : decode cX5_step 96 = .ok (.iaload, 1) := by decide +kernel
theorem dX5_step_97 : decode cX5_step 97 = .ok (.ireturn, 1) := by decide +kernel
theorem dX5_adds_0 : decode cX5_adds 0 = .ok (.bipush 30, 2) := by decide +kernel
theorem dX5_adds_2 : decode cX5_adds 2 = .ok (.iload_n 1, 1) := by decide +kernel
theorem dX5_adds_3 : decode cX5_adds 3 = .ok (.imul, 1) := by decide +kernel
theorem dX5_adds_4 : decode cX5_adds 4 = .ok (.aload_n 0, 1) := by decide +kernel
theorem dX5_adds_5 : decode cX5_adds 5 = .ok (.getfield 51, 3) := by decide +kernel
theorem dX5_adds_8 : decode cX5_adds 8 = .ok (.iload_n 1, 1) := by decide +kernel
theorem dX5_adds_9 : decode cX5_adds 9 = .ok (.iaload, 1) := by decide +kernel
theorem dX5_adds_10 : decode cX5_adds 10 = .ok (.iadd, 1) := by decide +kernel
theorem dX5_adds_11 : decode cX5_adds 11 = .ok (.istore 5, 2) := by decide +kernel
theorem dX5_adds_13 : decode cX5_adds 13 = .ok (.aload_n 0, 1) := by decide +kernel
theorem dX5_adds_14 : decode cX5_adds 14 = .ok (.getfield 41, 3) := by decide +kernel
theorem dX5_adds_17 : decode cX5_adds 17 = .ok (.iload 5, 2) := by decide +kernel
theorem dX5_adds_19 : decode cX5_adds 19 = .ok (.iload_n 2, 1) := by decide +kernel
theorem dX5_adds_20 : decode cX5_adds 20 = .ok (.castore, 1) := by decide +kernel
theorem dX5_adds_21 : decode cX5_adds 21 = .ok (.aload_n 0, 1) := by decide +kernel
theorem dX5_adds_22 : decode cX5_adds 22 = .ok (.getfield 45, 3) := by decide +kernel
theorem dX5_adds_25 : decode cX5_adds 25 = .ok (.iload 5, 2) := by decide +kernel
theorem dX5_adds_27 : decode cX5_adds 27 = .ok (.iload_n 3, 1) := by decide +kernel
theorem dX5_adds_28 : decode cX5_adds 28 = .ok (.iastore, 1) := by decide +kernel
theorem dX5_adds_29 : decode cX5_adds 29 = .ok (.aload_n 0, 1) := by decide +kernel
theorem dX5_adds_30 : decode cX5_adds 30 = .ok (.getfield 48, 3) := by decide +kernel
theorem dX5_adds_33 : decode cX5_adds 33 = .ok (.iload 5, 2) := by decide +kernel
theorem dX5_adds_35 : decode cX5_adds 35 = .ok (.iload 4, 2) := by decide +kernel
theorem dX5_adds_37 : decode cX5_adds 37 = .ok (.iastore, 1) := by decide +kernel
theorem dX5_adds_38 : decode cX5_adds 38 = .ok (.aload_n 0, 1) := by decide +kernel
theorem dX5_adds_39 : decode cX5_adds 39 = .ok (.getfield 51, 3) := by decide +kernel
theorem dX5_adds_42 : decode cX5_adds 42 = .ok (.iload_n 1, 1) := by decide +kernel
theorem dX5_adds_43 : decode cX5_adds 43 = .ok (.dup2, 1) := by decide +kernel
theorem dX5_adds_44 : decode cX5_adds 44 = .ok (.iaload, 1) := by decide +kernel
theorem dX5_adds_45 : decode cX5_adds 45 = .ok (.iconst 1, 1) := by decide +kernel
theorem dX5_adds_46 : decode cX5_adds 46 = .ok (.iadd, 1) := by decide +kernel
theorem dX5_adds_47 : decode cX5_adds 47 = .ok (.iastore, 1) := by decide +kernel
theorem dX5_adds_48 : decode cX5_adds 48 = .ok (.return_, 1) := by decide +kernel
theorem dX5_forget_0 : decode cX5_forget 0 = .ok (.aload_n 0, 1) := by decide +kernel
theorem dX5_forget_1 : decode cX5_forget 1 = .ok (.iload_n 1, 1) := by decide +kernel
theorem dX5_forget_2 : decode cX5_forget 2 = .ok (.invokestatic 136, 3) := by decide +kernel
theorem dX5_forget_5 : decode cX5_forget 5 = .ok (.ifCond .ne 7, 3) := by decide +kernel
theorem dX5_forget_8 : decode cX5_forget 8 = .ok (.iconst 1, 1) := by decide +kernel
theorem dX5_forget_9 : decode cX5_forget 9 = .ok (.goto 4, 3) := by decide +kernel
theorem dX5_forget_12 : decode cX5_forget 12 = .ok (.iconst 0, 1) := by decide +kernel
theorem dX5_forget_13 : decode cX5_forget 13 = .ok (.invokevirtual 95, 3) := by decide +kernel
theorem dX5_forget_16 : decode cX5_forget 16 = .ok (.ifCond .eq 5, 3) := by decide +kernel
theorem dX5_forget_19 : decode cX5_forget 19 = .ok (.iconst 0, 1) := by decide +kernel
theorem dX5_forget_20 : decode cX5_forget 20 = .ok (.ireturn, 1) := by decide +kernel
theorem dX5_forget_21 : decode cX5_forget 21 = .ok (.aload_n 0, 1) := by decide +kernel
theorem dX5_forget_22 : decode cX5_forget 22 = .ok (.getfield 51, 3) := by decide +kernel
theorem dX5_forget_25 : decode cX5_forget 25 = .ok (.iload_n 1, 1) := by decide +kernel
theorem dX5_forget_26 : decode cX5_forget 26 = .ok (.iaload, 1) := by decide +kernel
theorem dX5_forget_27 : decode cX5_forget 27 = .ok (.istore_n 2, 1) := by decide +kernel
theorem dX5_forget_28 : decode cX5_forget 28 = .ok (.aload_n 0, 1) := by decide +kernel
theorem dX5_forget_29 : decode cX5_forget 29 = .ok (.getfield 51, 3) := by decide +kernel
theorem dX5_forget_32 : decode cX5_forget 32 = .ok (.iload_n 1, 1) := by decide +kernel
theorem dX5_forget_33 : decode cX5_forget 33 = .ok (.iconst 0, 1) := by decide +kernel
theorem dX5_forget_34 : decode cX5_forget 34 = .ok (.iastore, 1) := by decide +kernel
theorem dX5_forget_35 : decode cX5_forget 35 = .ok (.iload_n 2, 1) := by decide +kernel
theorem dX5_forget_36 : decode cX5_forget 36 = .ok (.ireturn, 1) := by decide +kernel
theorem dX5_does_0 : decode cX5_does 0 = .ok (.aload_n 0, 1) := by decide +kernel
theorem dX5_does_1 : decode cX5_does 1 = .ok (.getfield 45, 3) := by decide +kernel
theorem dX5_does_4 : decode cX5_does 4 = .ok (.iload_n 2, 1) := by decide +kernel
theorem dX5_does_5 : decode cX5_does 5 = .ok (.iaload, 1) := by decide +kernel
theorem dX5_does_6 : decode cX5_does 6 = .ok (.istore_n 3, 1) := by decide +kernel
theorem dX5_does_7 : decode cX5_does 7 = .ok (.aload_n 0, 1) := by decide +kernel
theorem dX5_does_8 : decode cX5_does 8 = .ok (.getfield 48, 3) := by decide +kernel
theorem dX5_does_11 : decode cX5_does 11 = .ok (.iload_n 2, 1) := by decide +kernel
theorem dX5_does_12 : decode cX5_does 12 = .ok (.iaload, 1) := by decide +kernel
theorem dX5_does_13 : decode cX5_does 13 = .ok (.istore 4, 2) := by decide +kernel
theorem dX5_does_15 : decode cX5_does 15 = .ok (.aload_n 0, 1) := by decide +kernel
theorem dX5_does_16 : decode cX5_does 16 = .ok (.getfield 41, 3) := by decide +kernel
theorem dX5_does_19 : decode cX5_does 19 = .ok (.iload_n 2, 1) := by decide +kernel
theorem dX5_does_20 : decode cX5_does 20 = .ok (.caload, 1) := by decide +kernel
theorem dX5_does_21 : decode cX5_does 21 = .ok (.istore 5, 2) := by decide +kernel
theorem dX5_does_23 : decode cX5_does 23 = .ok (.aload_n 0, 1) := by decide +kernel
theorem dX5_does_24 : decode cX5_does 24 = .ok (.iload_n 1, 1) := by decide +kernel
theorem dX5_does_25 : decode cX5_does 25 = .ok (.iload_n 3, 1) := by decide +kernel
theorem dX5_does_26 : decode cX5_does 26 = .ok (.invokevirtual 91, 3) := by decide +kernel
theorem dX5_does_29 : decode cX5_does 29 = .ok (.istore 6, 2) := by decide +kernel
theorem dX5_does_31 : decode cX5_does 31 = .ok (.iload 6, 2) := by decide +kernel
theorem dX5_does_33 : decode cX5_does 33 = .ok (.ifCond .eq 22, 3) := by decide +kernel
theorem dX5_does_36 : decode cX5_does 36 = .ok (.aload_n 0, 1) := by decide +kernel
theorem dX5_does_37 : decode cX5_does 37 = .ok (.getfield 13, 3) := by decide +kernel
theorem dX5_does_40 : decode cX5_does 40 = .ok (.bipush 60, 2) := by decide +kernel
theorem dX5_does_42 : decode cX5_does 42 = .ok (.iload_n 1, 1) := by decide +kernel
theorem dX5_does_43 : decode cX5_does 43 = .ok (.imul, 1) := by decide +kernel
theorem dX5_does_44 : decode cX5_does 44 = .ok (.aload_n 0, 1) := by decide +kernel
theorem dX5_does_45 : decode cX5_does 45 = .ok (.iload_n 1, 1) := by decide +kernel
theorem dX5_does_46 : decode cX5_does 46 = .ok (.iload_n 3, 1) := by decide +kernel
theorem dX5_does_47 : decode cX5_does 47 = .ok (.invokevirtual 68, 3) := by decide +kernel
theorem dX5_does_50 : decode cX5_does 50 = .ok (.iadd, 1) := by decide +kernel
theorem dX5_does_51 : decode cX5_does 51 = .ok (.iaload, 1) := by decide +kernel
theorem dX5_does_52 : decode cX5_does 52 = .ok (.goto 4, 3) := by decide +kernel
theorem dX5_does_55 : decode cX5_does 55 = .ok (.iconst 0, 1) := by decide +kernel
theorem dX5_does_56 : decode cX5_does 56 = .ok (.istore 7, 2) := by decide +kernel
theorem dX5_does_58 : decode cX5_does 58 = .ok (.iload 5, 2) := by decide +kernel
theorem dX5_does_60 : decode cX5_does 60 = .ok (.bipush 114, 2) := by decide +kernel
theorem dX5_does_62 : decode cX5_does 62 = .ok (.if_icmp .ne 22, 3) := by decide +kernel
theorem dX5_does_65 : decode cX5_does 65 = .ok (.iload 6, 2) := by decide +kernel
theorem dX5_does_67 : decode cX5_does 67 = .ok (.ifCond .eq 14, 3) := by decide +kernel
theorem dX5_does_70 : decode cX5_does 70 = .ok (.aload_n 0, 1) := by decide +kernel
theorem dX5_does_71 : decode cX5_does 71 = .ok (.iload_n 1, 1) := by decide +kernel
theorem dX5_does_72 : decode cX5_does 72 = .ok (.aload_n 0, 1) := by decide +kernel
theorem dX5_does_73 : decode cX5_does 73 = .ok (.iload_n 1, 1) := by decide +kernel
theorem dX5_does_74 : decode cX5_does 74 = .ok (.iload_n 3, 1) := by decide +kernel
theorem dX5_does_75 : decode cX5_does 75 = .ok (.invokevirtual 68, 3) := by decide +kernel
theorem dX5_does_78 : decode cX5_does 78 = .ok (.invokevirtual 79, 3) := by decide +kernel
theorem dX5_does_81 : decode cX5_does 81 = .ok (.iload 6, 2) := by decide +kernel
theorem dX5_does_83 : decode cX5_does 83 = .ok (.ireturn, 1) := by decide +kernel
theorem dX5_does_84 : decode cX5_does 84 = .ok (.iload 5, 2) := by decide +kernel
theorem dX5_does_86 : decode cX5_does 86 = .ok (.bipush 97, 2) := by decide +kernel
theorem dX5_does_88 : decode cX5_does 88 = .ok (.if_icmp .ne 8, 3) := by decide +kernel
theorem dX5_does_91 : decode cX5_does 91 = .ok (.iload 6, 2) := by decide +kernel
theorem dX5_does_93 : decode cX5_does 93 = .ok (.ifCond .ne 15, 3) := by decide +kernel
theorem dX5_does_96 : decode cX5_does 96 = .ok (.iload 5, 2) := by decide +kernel
theorem dX5_does_98 : decode cX5_does 98 = .ok (.bipush 120, 2) := by decide +kernel
theorem dX5_does_100 : decode cX5_does 100 = .ok (.if_icmp .ne 10, 3) := by decide +kernel
theorem dX5_does_103 : decode cX5_does 103 = .ok (.iload 6, 2) := by decide +kernel
theorem dX5_does_105 : decode cX5_does 105 = .ok (.ifCond .ne 5, 3) := by decide +kernel
theorem dX5_does_108 : decode cX5_does 108 = .ok (.iconst 0, 1) := by decide +kernel
theorem dX5_does_109 : decode cX5_does 109 = .ok (.ireturn, 1) := by decide +kernel
theorem dX5_does_110 : decode cX5_does 110 = .ok (.iload 5, 2) := by decide +kernel
theorem dX5_does_112 : decode cX5_does 112 = .ok (.bipush 115, 2) := by decide +kernel
theorem dX5_does_114 : decode cX5_does 114 = .ok (.if_icmp .ne 16, 3) := by decide +kernel
theorem dX5_does_117 : decode cX5_does 117 = .ok (.iload 6, 2) := by decide +kernel
theorem dX5_does_119 : decode cX5_does 119 = .ok (.ifCond .eq 11, 3) := by decide +kernel
theorem dX5_does_122 : decode cX5_does 122 = .ok (.iload 7, 2) := by decide +kernel
theorem dX5_does_124 : decode cX5_does 124 = .ok (.iload 4, 2) := by decide +kernel
theorem dX5_does_126 : decode cX5_does 126 = .ok (.iadd, 1) := by decide +kernel
theorem dX5_does_127 : decode cX5_does 127 = .ok (.goto 5, 3) := by decide +kernel
theorem dX5_does_130 : decode cX5_does 130 = .ok (.iload 4, 2) := by decide +kernel
theorem dX5_does_132 : decode cX5_does 132 = .ok (.istore 8, 2) := by decide +kernel
theorem dX5_does_134 : decode cX5_does 134 = .ok (.aload_n 0, 1) := by decide +kernel
theorem dX5_does_135 : decode cX5_does 135 = .ok (.iload_n 1, 1) := by decide +kernel
theorem dX5_does_136 : decode cX5_does 136 = .ok (.iload_n 3, 1) := by decide +kernel
theorem dX5_does_137 : decode cX5_does 137 = .ok (.iload 8, 2) := by decide +kernel
theorem dX5_does_139 : decode cX5_does 139 = .ok (.invokevirtual 98, 3) := by decide +kernel
theorem dX5_does_142 : decode cX5_does 142 = .ok (.iload 6, 2) := by decide +kernel
theorem dX5_does_144 : decode cX5_does 144 = .ok (.ifCond .eq 10, 3) := by decide +kernel
theorem dX5_does_147 : decode cX5_does 147 = .ok (.iload 8, 2) := by decide +kernel
theorem dX5_does_149 : decode cX5_does 149 = .ok (.iload 7, 2) := by decide +kernel
theorem dX5_does_151 : decode cX5_does 151 = .ok (.if_icmp .eq 7, 3) := by decide +kernel
theorem dX5_does_154 : decode cX5_does 154 = .ok (.iconst 1, 1) := by decide +kernel
theorem dX5_does_155 : decode cX5_does 155 = .ok (.goto 4, 3) := by decide +kernel
theorem dX5_does_158 : decode cX5_does 158 = .ok (.iconst 0, 1) := by decide +kernel
theorem dX5_does_159 : decode cX5_does 159 = .ok (.ireturn, 1) := by decide +kernel
theorem dX5_gathers_0 : decode cX5_gathers 0 = .ok (.iconst 0, 1) := by decide +kernel
theorem dX5_gathers_1 : decode cX5_gathers 1 = .ok (.istore_n 3, 1) := by decide +kernel
theorem dX5_gathers_2 : decode cX5_gathers 2 = .ok (.iload_n 3, 1) := by decide +kernel
theorem dX5_gathers_3 : decode cX5_gathers 3 = .ok (.aload_n 0, 1) := by decide +kernel
theorem dX5_gathers_4 : decode cX5_gathers 4 = .ok (.getfield 51, 3) := by decide +kernel
theorem dX5_gathers_7 : decode cX5_gathers 7 = .ok (.iload_n 1, 1) := by decide +kernel
theorem dX5_gathers_8 : decode cX5_gathers 8 = .ok (.iaload, 1) := by decide +kernel
theorem dX5_gathers_9 : decode cX5_gathers 9 = .ok (.if_icmp .ge 153, 3) := by decide +kernel
theorem dX5_gathers_12 : decode cX5_gathers 12 = .ok (.aload_n 0, 1) := by decide +kernel
theorem dX5_gathers_13 : decode cX5_gathers 13 = .ok (.getfield 45, 3) := by decide +kernel
theorem dX5_gathers_16 : decode cX5_gathers 16 = .ok (.bipush 30, 2) := by decide +kernel
theorem dX5_gathers_18 : decode cX5_gathers 18 = .ok (.iload_n 1, 1) := by decide +kernel
theorem dX5_gathers_19 : decode cX5_gathers 19 = .ok (.imul, 1) := by decide +kernel
theorem dX5_gathers_20 : decode cX5_gathers 20 = .ok (.iload_n 3, 1) := by decide +kernel
theorem dX5_gathers_21 : decode cX5_gathers 21 = .ok (.iadd, 1) := by decide +kernel
theorem dX5_gathers_22 : decode cX5_gathers 22 = .ok (.iaload, 1) := by decide +kernel
theorem dX5_gathers_23 : decode cX5_gathers 23 = .ok (.istore 4, 2) := by decide +kernel
theorem dX5_gathers_25 : decode cX5_gathers 25 = .ok (.iconst 0, 1) := by decide +kernel
theorem dX5_gathers_26 : decode cX5_gathers 26 = .ok (.istore 5, 2) := by decide +kernel
theorem dX5_gathers_28 : decode cX5_gathers 28 = .ok (.iload 5, 2) := by decide +kernel
theorem dX5_gathers_30 : decode cX5_gathers 30 = .ok (.aload_n 0, 1) := by decide +kernel
theorem dX5_gathers_31 : decode cX5_gathers 31 = .ok (.getfield 143, 3) := by decide +kernel
theorem dX5_gathers_34 : decode cX5_gathers 34 = .ok (.if_icmp .ge 21, 3) := by decide +kernel
theorem dX5_gathers_37 : decode cX5_gathers 37 = .ok (.aload_n 0, 1) := by decide +kernel
theorem dX5_gathers_38 : decode cX5_gathers 38 = .ok (.getfield 54, 3) := by decide +kernel
theorem dX5_gathers_41 : decode cX5_gathers 41 = .ok (.iload 5, 2) := by decide +kernel
theorem dX5_gathers_43 : decode cX5_gathers 43 = .ok (.iaload, 1) := by decide +kernel
theorem dX5_gathers_44 : decode cX5_gathers 44 = .ok (.iload 4, 2) := by decide +kernel
theorem dX5_gathers_46 : decode cX5_gathers 46 = .ok (.if_icmp .ge 9, 3) := by decide +kernel
theorem dX5_gathers_49 : decode cX5_gathers 49 = .ok (.iinc 5 1, 3) := by decide +kernel
theorem dX5_gathers_52 : decode cX5_gathers 52 = .ok (.goto (-24), 3) := by decide +kernel
theorem dX5_gathers_55 : decode cX5_gathers 55 = .ok (.iload 5, 2) := by decide +kernel
theorem dX5_gathers_57 : decode cX5_gathers 57 = .ok (.aload_n 0, 1) := by decide +kernel
theorem dX5_gathers_58 : decode cX5_gathers 58 = .ok (.getfield 143, 3) := by decide +kernel
theorem dX5_gathers_61 : decode cX5_gathers 61 = .ok (.if_icmp .ge 19, 3) := by decide +kernel
theorem dX5_gathers_64 : decode cX5_gathers 64 = .ok (.aload_n 0, 1) := by decide +kernel
theorem dX5_gathers_65 : decode cX5_gathers 65 = .ok (.getfield 54, 3) := by decide +kernel
theorem dX5_gathers_68 : decode cX5_gathers 68 = .ok (.iload 5, 2) := by decide +kernel
theorem dX5_gathers_70 : decode cX5_gathers 70 = .ok (.iaload, 1) := by decide +kernel
theorem dX5_gathers_71 : decode cX5_gathers 71 = .ok (.iload 4, 2) := by decide +kernel
theorem dX5_gathers_73 : decode cX5_gathers 73 = .ok (.if_icmp .ne 7, 3) := by decide +kernel
theorem dX5_gathers_76 : decode cX5_gathers 76 = .ok (.iconst 1, 1) := by decide +kernel
theorem dX5_gathers_77 : decode cX5_gathers 77 = .ok (.goto 4, 3) := by decide +kernel
theorem dX5_gathers_80 : decode cX5_gathers 80 = .ok (.iconst 0, 1) := by decide +kernel
theorem dX5_gathers_81 : decode cX5_gathers 81 = .ok (.istore 6, 2) := by decide +kernel
theorem dX5_gathers_83 : decode cX5_gathers 83 = .ok (.iload 6, 2) := by decide +kernel
theorem dX5_gathers_85 : decode cX5_gathers 85 = .ok (.ifCond .ne 71, 3) := by decide +kernel
theorem dX5_gathers_88 : decode cX5_gathers 88 = .ok (.iload_n 2, 1) := by decide +kernel
theorem dX5_gathers_89 : decode cX5_gathers 89 = .ok (.ifCond .lt 13, 3) := by decide +kernel
theorem dX5_gathers_92 : decode cX5_gathers 92 = .ok (.aload_n 0, 1) := by decide +kernel
theorem dX5_gathers_93 : decode cX5_gathers 93 = .ok (.iload_n 2, 1) := by decide +kernel
theorem dX5_gathers_94 : decode cX5_gathers 94 = .ok (.iload 4, 2) := by decide +kernel
theorem dX5_gathers_96 : decode cX5_gathers 96 = .ok (.invokevirtual 91, 3) := by decide +kernel
theorem dX5_gathers_99 : decode cX5_gathers 99 = .ok (.ifCond .ne 57, 3) := by decide +kernel
theorem dX5_gathers_102 : decode cX5_gathers 102 = .ok (.aload_n 0, 1) := by decide +kernel
theorem dX5_gathers_103 : decode cX5_gathers 103 = .ok (.getfield 143, 3) := by decide +kernel
theorem dX5_gathers_106 : decode cX5_gathers 106 = .ok (.istore 7, 2) := by decide +kernel
theorem dX5_gathers_108 : decode cX5_gathers 108 = .ok (.iload 7, 2) := by decide +kernel
theorem dX5_gathers_110 : decode cX5_gathers 110 = .ok (.iload 5, 2) := by decide +kernel
theorem dX5_gathers_112 : decode cX5_gathers 112 = .ok (.if_icmp .le 25, 3) := by decide +kernel
theorem dX5_gathers_115 : decode cX5_gathers 115 = .ok (.aload_n 0, 1) := by decide +kernel
theorem dX5_gathers_116 : decode cX5_gathers 116 = .ok (.getfield 54, 3) := by decide +kernel
theorem dX5_gathers_119 : decode cX5_gathers 119 = .ok (.iload 7, 2) := by decide +kernel
theorem dX5_gathers_121 : decode cX5_gathers 121 = .ok (.aload_n 0, 1) := by decide +kernel
theorem dX5_gathers_122 : decode cX5_gathers 122 = .ok (.getfield 54, 3) := by decide +kernel
theorem dX5_gathers_125 : decode cX5_gathers 125 = .ok (.iload 7, 2) := by decide +kernel
theorem dX5_gathers_127 : decode cX5_gathers 127 = .ok (.iconst 1, 1) := by decide +kernel
theorem dX5_gathers_128 : decode cX5_gathers 128 = .ok (.isub, 1) := by decide +kernel
theorem dX5_gathers_129 : decode cX5_gathers 129 = .ok (.iaload, 1) := by decide +kernel
theorem dX5_gathers_130 : decode cX5_gathers 130 = .ok (.iastore, 1) := by decide +kernel
theorem dX5_gathers_131 : decode cX5_gathers 131 = .ok (.iinc 7 (-1), 3) := by decide +kernel
theorem dX5_gathers_134 : decode cX5_gathers 134 = .ok (.goto (-26), 3) := by decide +kernel
theorem dX5_gathers_137 : decode cX5_gathers 137 = .ok (.aload_n 0, 1) := by decide +kernel
theorem dX5_gathers_138 : decode cX5_gathers 138 = .ok (.getfield 54, 3) := by decide +kernel
theorem dX5_gathers_141 : decode cX5_gathers 141 = .ok (.iload 5, 2) := by decide +kernel
theorem dX5_gathers_143 : decode cX5_gathers 143 = .ok (.iload 4, 2) := by decide +kernel
theorem dX5_gathers_145 : decode cX5_gathers 145 = .ok (.iastore, 1) := by decide +kernel
theorem dX5_gathers_146 : decode cX5_gathers 146 = .ok (.aload_n 0, 1) := by decide +kernel
theorem dX5_gathers_147 : decode cX5_gathers 147 = .ok (.dup, 1) := by decide +kernel
theorem dX5_gathers_148 : decode cX5_gathers 148 = .ok (.getfield 143, 3) := by decide +kernel
theorem dX5_gathers_151 : decode cX5_gathers 151 = .ok (.iconst 1, 1) := by decide +kernel
theorem dX5_gathers_152 : decode cX5_gathers 152 = .ok (.iadd, 1) := by decide +kernel
theorem dX5_gathers_153 : decode cX5_gathers 153 = .ok (.putfield 143, 3) := by decide +kernel
theorem dX5_gathers_156 : decode cX5_gathers 156 = .ok (.iinc 3 1, 3) := by decide +kernel
theorem dX5_gathers_159 : decode cX5_gathers 159 = .ok (.goto (-157), 3) := by decide +kernel
theorem dX5_gathers_162 : decode cX5_gathers 162 = .ok (.return_, 1) := by decide +kernel
theorem dX5_isTooMuch_0 : decode cX5_isTooMuch 0 = .ok (.aload_n 0, 1) := by decide +kernel
theorem dX5_isTooMuch_1 : decode cX5_isTooMuch 1 = .ok (.iconst 0, 1) := by decide +kernel
theorem dX5_isTooMuch_2 : decode cX5_isTooMuch 2 = .ok (.putfield 143, 3) := by decide +kernel
theorem dX5_isTooMuch_5 : decode cX5_isTooMuch 5 = .ok (.aload_n 0, 1) := by decide +kernel
theorem dX5_isTooMuch_6 : decode cX5_isTooMuch 6 = .ok (.iload_n 1, 1) := by decide +kernel
theorem dX5_isTooMuch_7 : decode cX5_isTooMuch 7 = .ok (.iload_n 3, 1) := by decide +kernel
theorem dX5_isTooMuch_8 : decode cX5_isTooMuch 8 = .ok (.invokevirtual 146, 3) := by decide +kernel
theorem dX5_isTooMuch_11 : decode cX5_isTooMuch 11 = .ok (.aload_n 0, 1) := by decide +kernel
theorem dX5_isTooMuch_12 : decode cX5_isTooMuch 12 = .ok (.iload_n 2, 1) := by decide +kernel
theorem dX5_isTooMuch_13 : decode cX5_isTooMuch 13 = .ok (.iload_n 3, 1) := by decide +kernel
theorem dX5_isTooMuch_14 : decode cX5_isTooMuch 14 = .ok (.invokevirtual 146, 3) := by decide +kernel
theorem dX5_isTooMuch_17 : decode cX5_isTooMuch 17 = .ok (.aload_n 0, 1) := by decide +kernel
theorem dX5_isTooMuch_18 : decode cX5_isTooMuch 18 = .ok (.getfield 16, 3) := by decide +kernel
theorem dX5_isTooMuch_21 : decode cX5_isTooMuch 21 = .ok (.iload_n 3, 1) := by decide +kernel
theorem dX5_isTooMuch_22 : decode cX5_isTooMuch 22 = .ok (.iaload, 1) := by decide +kernel
theorem dX5_isTooMuch_23 : decode cX5_isTooMuch 23 = .ok (.aload_n 0, 1) := by decide +kernel
theorem dX5_isTooMuch_24 : decode cX5_isTooMuch 24 = .ok (.getfield 143, 3) := by decide +kernel
theorem dX5_isTooMuch_27 : decode cX5_isTooMuch 27 = .ok (.iadd, 1) := by decide +kernel
theorem dX5_isTooMuch_28 : decode cX5_isTooMuch 28 = .ok (.bipush 60, 2) := by decide +kernel
theorem dX5_isTooMuch_30 : decode cX5_isTooMuch 30 = .ok (.if_icmp .le 7, 3) := by decide +kernel
theorem dX5_isTooMuch_33 : decode cX5_isTooMuch 33 = .ok (.iconst 1, 1) := by decide +kernel
theorem dX5_isTooMuch_34 : decode cX5_isTooMuch 34 = .ok (.goto 4, 3) := by decide +kernel
theorem dX5_isTooMuch_37 : decode cX5_isTooMuch 37 = .ok (.iconst 0, 1) := by decide +kernel
theorem dX5_isTooMuch_38 : decode cX5_isTooMuch 38 = .ok (.ireturn, 1) := by decide +kernel
theorem dX5_play_0 : decode cX5_play 0 = .ok (.aload_n 0, 1) := by decide +kernel
theorem dX5_play_1 : decode cX5_play 1 = .ok (.iload_n 1, 1) := by decide +kernel
theorem dX5_play_2 : decode cX5_play 2 = .ok (.invokestatic 136, 3) := by decide +kernel
theorem dX5_play_5 : decode cX5_play 5 = .ok (.ifCond .eq 10, 3) := by decide +kernel
theorem dX5_play_8 : decode cX5_play 8 = .ok (.iload_n 2, 1) := by decide +kernel
theorem dX5_play_9 : decode cX5_play 9 = .ok (.invokestatic 87, 3) := by decide +kernel
theorem dX5_play_12 : decode cX5_play 12 = .ok (.ifCond .ne 7, 3) := by decide +kernel
theorem dX5_play_15 : decode cX5_play 15 = .ok (.iconst 1, 1) := by decide +kernel
theorem dX5_play_16 : decode cX5_play 16 = .ok (.goto 18, 3) := by decide +kernel
theorem dX5_play_19 : decode cX5_play 19 = .ok (.aload_n 0, 1) := by decide +kernel
theorem dX5_play_20 : decode cX5_play 20 = .ok (.iload_n 1, 1) := by decide +kernel
theorem dX5_play_21 : decode cX5_play 21 = .ok (.iload_n 1, 1) := by decide +kernel
theorem dX5_play_22 : decode cX5_play 22 = .ok (.iload_n 2, 1) := by decide +kernel
theorem dX5_play_23 : decode cX5_play 23 = .ok (.invokevirtual 149, 3) := by decide +kernel
theorem dX5_play_26 : decode cX5_play 26 = .ok (.ifCond .eq 7, 3) := by decide +kernel
theorem dX5_play_29 : decode cX5_play 29 = .ok (.iconst 2, 1) := by decide +kernel
theorem dX5_play_30 : decode cX5_play 30 = .ok (.goto 4, 3) := by decide +kernel
theorem dX5_play_33 : decode cX5_play 33 = .ok (.iconst 0, 1) := by decide +kernel
theorem dX5_play_34 : decode cX5_play 34 = .ok (.invokevirtual 95, 3) := by decide +kernel
theorem dX5_play_37 : decode cX5_play 37 = .ok (.ifCond .eq 5, 3) := by decide +kernel
theorem dX5_play_40 : decode cX5_play 40 = .ok (.iconst 0, 1) := by decide +kernel
theorem dX5_play_41 : decode cX5_play 41 = .ok (.ireturn, 1) := by decide +kernel
theorem dX5_play_42 : decode cX5_play 42 = .ok (.iconst 0, 1) := by decide +kernel
theorem dX5_play_43 : decode cX5_play 43 = .ok (.istore_n 3, 1) := by decide +kernel
theorem dX5_play_44 : decode cX5_play 44 = .ok (.iconst 0, 1) := by decide +kernel
theorem dX5_play_45 : decode cX5_play 45 = .ok (.istore 4, 2) := by decide +kernel
theorem dX5_play_47 : decode cX5_play 47 = .ok (.iload 4, 2) := by decide +kernel
theorem dX5_play_49 : decode cX5_play 49 = .ok (.aload_n 0, 1) := by decide +kernel
theorem dX5_play_50 : decode cX5_play 50 = .ok (.getfield 51, 3) := by decide +kernel
theorem dX5_play_53 : decode cX5_play 53 = .ok (.iload_n 1, 1) := by decide +kernel
theorem dX5_play_54 : decode cX5_play 54 = .ok (.iaload, 1) := by decide +kernel
theorem dX5_play_55 : decode cX5_play 55 = .ok (.if_icmp .ge 32, 3) := by decide +kernel
theorem dX5_play_58 : decode cX5_play 58 = .ok (.iload_n 3, 1) := by decide +kernel
theorem dX5_play_59 : decode cX5_play 59 = .ok (.aload_n 0, 1) := by decide +kernel
theorem dX5_play_60 : decode cX5_play 60 = .ok (.iload_n 2, 1) := by decide +kernel
theorem dX5_play_61 : decode cX5_play 61 = .ok (.bipush 30, 2) := by decide +kernel
theorem dX5_play_63 : decode cX5_play 63 = .ok (.iload_n 1, 1) := by decide +kernel
theorem dX5_play_64 : decode cX5_play 64 = .ok (.imul, 1) := by decide +kernel
theorem dX5_play_65 : decode cX5_play 65 = .ok (.iload 4, 2) := by decide +kernel
theorem dX5_play_67 : decode cX5_play 67 = .ok (.iadd, 1) := by decide +kernel
theorem dX5_play_68 : decode cX5_play 68 = .ok (.invokevirtual 152, 3) := by decide +kernel
theorem dX5_play_71 : decode cX5_play 71 = .ok (.ifCond .eq 7, 3) := by decide +kernel
theorem dX5_play_74 : decode cX5_play 74 = .ok (.iconst 1, 1) := by decide +kernel
theorem dX5_play_75 : decode cX5_play 75 = .ok (.goto 4, 3) := by decide +kernel
theorem dX5_play_78 : decode cX5_play 78 = .ok (.iconst 0, 1) := by decide +kernel
theorem dX5_play_79 : decode cX5_play 79 = .ok (.iadd, 1) := by decide +kernel
theorem dX5_play_80 : decode cX5_play 80 = .ok (.istore_n 3, 1) := by decide +kernel
theorem dX5_play_81 : decode cX5_play 81 = .ok (.iinc 4 1, 3) := by decide +kernel
theorem dX5_play_84 : decode cX5_play 84 = .ok (.goto (-37), 3) := by decide +kernel
theorem dX5_play_87 : decode cX5_play 87 = .ok (.iload_n 3, 1) := by decide +kernel
theorem dX5_play_88 : decode cX5_play 88 = .ok (.ireturn, 1) := by decide +kernel
theorem dX5_playBoth_0 : decode cX5_playBoth 0 = .ok (.aload_n 0, 1) := by decide +kernel
theorem dX5_playBoth_1 : decode cX5_playBoth 1 = .ok (.iload_n 1, 1) := by decide +kernel
theorem dX5_playBoth_2 : decode cX5_playBoth 2 = .ok (.invokestatic 136, 3) := by decide +kernel
theorem dX5_playBoth_5 : decode cX5_playBoth 5 = .ok (.ifCond .eq 18, 3) := by decide +kernel
theorem dX5_playBoth_8 : decode cX5_playBoth 8 = .ok (.iload_n 2, 1) := by decide +kernel
theorem dX5_playBoth_9 : decode cX5_playBoth 9 = .ok (.invokestatic 136, 3) := by decide +kernel
theorem dX5_playBoth_12 : decode cX5_playBoth 12 = .ok (.ifCond .eq 11, 3) := by decide +kernel
theorem dX5_playBoth_15 : decode cX5_playBoth 15 = .ok (.iload 4, 2) := by decide +kernel
theorem dX5_playBoth_17 : decode cX5_playBoth 17 = .ok (.invokestatic 87, 3) := by decide +kernel
theorem dX5_playBoth_20 : decode cX5_playBoth 20 = .ok (.ifCond .ne 7, 3) := by decide +kernel
theorem dX5_playBoth_23 : decode cX5_playBoth 23 = .ok (.iconst 1, 1) := by decide +kernel
theorem dX5_playBoth_24 : decode cX5_playBoth 24 = .ok (.goto 19, 3) := by decide +kernel
theorem dX5_playBoth_27 : decode cX5_playBoth 27 = .ok (.aload_n 0, 1) := by decide +kernel
theorem dX5_playBoth_28 : decode cX5_playBoth 28 = .ok (.iload_n 1, 1) := by decide +kernel
theorem dX5_playBoth_29 : decode cX5_playBoth 29 = .ok (.iload_n 2, 1) := by decide +kernel
theorem dX5_playBoth_30 : decode cX5_playBoth 30 = .ok (.iload 4, 2) := by decide +kernel
theorem dX5_playBoth_32 : decode cX5_playBoth 32 = .ok (.invokevirtual 149, 3) := by decide +kernel
theorem dX5_playBoth_35 : decode cX5_playBoth 35 = .ok (.ifCond .eq 7, 3) := by decide +kernel
theorem dX5_playBoth_38 : decode cX5_playBoth 38 = .ok (.iconst 2, 1) := by decide +kernel
theorem dX5_playBoth_39 : decode cX5_playBoth 39 = .ok (.goto 4, 3) := by decide +kernel
theorem dX5_playBoth_42 : decode cX5_playBoth 42 = .ok (.iconst 0, 1) := by decide +kernel
theorem dX5_playBoth_43 : decode cX5_playBoth 43 = .ok (.invokevirtual 95, 3) := by decide +kernel
theorem dX5_playBoth_46 : decode cX5_playBoth 46 = .ok (.ifCond .eq 5, 3) := by decide +kernel
theorem dX5_playBoth_49 : decode cX5_playBoth 49 = .ok (.iconst 0, 1) := by decide +kernel
theorem dX5_playBoth_50 : decode cX5_playBoth 50 = .ok (.ireturn, 1) := by decide +kernel
theorem dX5_playBoth_51 : decode cX5_playBoth 51 = .ok (.iconst 0, 1) := by decide +kernel
theorem dX5_playBoth_52 : decode cX5_playBoth 52 = .ok (.istore 5, 2) := by decide +kernel
theorem dX5_playBoth_54 : decode cX5_playBoth 54 = .ok (.iconst 0, 1) := by decide +kernel
theorem dX5_playBoth_55 : decode cX5_playBoth 55 = .ok (.istore 6, 2) := by decide +kernel
theorem dX5_playBoth_57 : decode cX5_playBoth 57 = .ok (.iconst 0, 1) := by decide +kernel
theorem dX5_playBoth_58 : decode cX5_playBoth 58 = .ok (.istore 7, 2) := by decide +kernel
theorem dX5_playBoth_60 : decode cX5_playBoth 60 = .ok (.iload 5, 2) := by decide +kernel
theorem dX5_playBoth_62 : decode cX5_playBoth 62 = .ok (.aload_n 0, 1) := by decide +kernel
theorem dX5_playBoth_63 : decode cX5_playBoth 63 = .ok (.getfield 51, 3) := by decide +kernel
theorem dX5_playBoth_66 : decode cX5_playBoth 66 = .ok (.iload_n 1, 1) := by decide +kernel
theorem dX5_playBoth_67 : decode cX5_playBoth 67 = .ok (.iaload, 1) := by decide +kernel
theorem dX5_playBoth_68 : decode cX5_playBoth 68 = .ok (.if_icmp .lt 14, 3) := by decide +kernel
theorem dX5_playBoth_71 : decode cX5_playBoth 71 = .ok (.iload 6, 2) := by decide +kernel
theorem dX5_playBoth_73 : decode cX5_playBoth 73 = .ok (.aload_n 0, 1) := by decide +kernel
theorem dX5_playBoth_74 : decode cX5_playBoth 74 = .ok (.getfield 51, 3) := by decide +kernel
theorem dX5_playBoth_77 : decode cX5_playBoth 77 = .ok (.iload_n 2, 1) := by decide +kernel
theorem dX5_playBoth_78 : decode cX5_playBoth 78 = .ok (.iaload, 1) := by decide +kernel
theorem dX5_playBoth_79 : decode cX5_playBoth 79 = .ok (.if_icmp .ge 123, 3) := by decide +kernel
theorem dX5_playBoth_82 : decode cX5_playBoth 82 = .ok (.iload_n 3, 1) := by decide +kernel
theorem dX5_playBoth_83 : decode cX5_playBoth 83 = .ok (.iload 7, 2) := by decide +kernel
theorem dX5_playBoth_85 : decode cX5_playBoth 85 = .ok (.bipush 32, 2) := by decide +kernel
theorem dX5_playBoth_87 : decode cX5_playBoth 87 = .ok (.irem, 1) := by decide +kernel
theorem dX5_playBoth_88 : decode cX5_playBoth 88 = .ok (.iushr, 1) := by decide +kernel
theorem dX5_playBoth_89 : decode cX5_playBoth 89 = .ok (.iconst 1, 1) := by decide +kernel
theorem dX5_playBoth_90 : decode cX5_playBoth 90 = .ok (.iand, 1) := by decide +kernel
theorem dX5_playBoth_91 : decode cX5_playBoth 91 = .ok (.iconst 1, 1) := by decide +kernel
theorem dX5_playBoth_92 : decode cX5_playBoth 92 = .ok (.if_icmp .ne 7, 3) := by decide +kernel
theorem dX5_playBoth_95 : decode cX5_playBoth 95 = .ok (.iconst 1, 1) := by decide +kernel
theorem dX5_playBoth_96 : decode cX5_playBoth 96 = .ok (.goto 4, 3) := by decide +kernel
theorem dX5_playBoth_99 : decode cX5_playBoth 99 = .ok (.iconst 0, 1) := by decide +kernel
theorem dX5_playBoth_100 : decode cX5_playBoth 100 = .ok (.istore 8, 2) := by decide +kernel
theorem dX5_playBoth_102 : decode cX5_playBoth 102 = .ok (.iload 5, 2) := by decide +kernel
theorem dX5_playBoth_104 : decode cX5_playBoth 104 = .ok (.aload_n 0, 1) := by decide +kernel
theorem dX5_playBoth_105 : decode cX5_playBoth 105 = .ok (.getfield 51, 3) := by decide +kernel
theorem dX5_playBoth_108 : decode cX5_playBoth 108 = .ok (.iload_n 1, 1) := by decide +kernel
theorem dX5_playBoth_109 : decode cX5_playBoth 109 = .ok (.iaload, 1) := by decide +kernel
theorem dX5_playBoth_110 : decode cX5_playBoth 110 = .ok (.if_icmp .eq 19, 3) := by decide +kernel
theorem dX5_playBoth_113 : decode cX5_playBoth 113 = .ok (.iload 8, 2) := by decide +kernel
theorem dX5_playBoth_115 : decode cX5_playBoth 115 = .ok (.ifCond .eq 18, 3) := by decide +kernel
theorem dX5_playBoth_118 : decode cX5_playBoth 118 = .ok (.iload 6, 2) := by decide +kernel
theorem dX5_playBoth_120 : decode cX5_playBoth 120 = .ok (.aload_n 0, 1) := by decide +kernel
theorem dX5_playBoth_121 : decode cX5_playBoth 121 = .ok (.getfield 51, 3) := by decide +kernel
theorem dX5_playBoth_124 : decode cX5_playBoth 124 = .ok (.iload_n 2, 1) := by decide +kernel
theorem dX5_playBoth_125 : decode cX5_playBoth 125 = .ok (.iaload, 1) := by decide +kernel
theorem dX5_playBoth_126 : decode cX5_playBoth 126 = .ok (.if_icmp .ge 7, 3) := by decide +kernel
theorem dX5_playBoth_129 : decode cX5_playBoth 129 = .ok (.iconst 1, 1) := by decide +kernel
theorem dX5_playBoth_130 : decode cX5_playBoth 130 = .ok (.goto 4, 3) := by decide +kernel
theorem dX5_playBoth_133 : decode cX5_playBoth 133 = .ok (.iconst 0, 1) := by decide +kernel
theorem dX5_playBoth_134 : decode cX5_playBoth 134 = .ok (.istore 8, 2) := by decide +kernel
theorem dX5_playBoth_136 : decode cX5_playBoth 136 = .ok (.aload_n 0, 1) := by decide +kernel
theorem dX5_playBoth_137 : decode cX5_playBoth 137 = .ok (.iload 4, 2) := by decide +kernel
theorem dX5_playBoth_139 : decode cX5_playBoth 139 = .ok (.iload 8, 2) := by decide +kernel
theorem dX5_playBoth_141 : decode cX5_playBoth 141 = .ok (.ifCond .eq 13, 3) := by decide +kernel
theorem dX5_playBoth_144 : decode cX5_playBoth 144 = .ok (.bipush 30, 2) := by decide +kernel
theorem dX5_playBoth_146 : decode cX5_playBoth 146 = .ok (.iload_n 2, 1) := by decide +kernel
theorem dX5_playBoth_147 : decode cX5_playBoth 147 = .ok (.imul, 1) := by decide +kernel
theorem dX5_playBoth_148 : decode cX5_playBoth 148 = .ok (.iload 6, 2) := by decide +kernel
theorem dX5_playBoth_150 : decode cX5_playBoth 150 = .ok (.iadd, 1) := by decide +kernel
theorem dX5_playBoth_151 : decode cX5_playBoth 151 = .ok (.goto 10, 3) := by decide +kernel
theorem dX5_playBoth_154 : decode cX5_playBoth 154 = .ok (.bipush 30, 2) := by decide +kernel
theorem dX5_playBoth_156 : decode cX5_playBoth 156 = .ok (.iload_n 1, 1) := by decide +kernel
theorem dX5_playBoth_157 : decode cX5_playBoth 157 = .ok (.imul, 1) := by decide +kernel
theorem dX5_playBoth_158 : decode cX5_playBoth 158 = .ok (.iload 5, 2) := by decide +kernel
theorem dX5_playBoth_160 : decode cX5_playBoth 160 = .ok (.iadd, 1) := by decide +kernel
theorem dX5_playBoth_161 : decode cX5_playBoth 161 = .ok (.invokevirtual 152, 3) := by decide +kernel
theorem dX5_playBoth_164 : decode cX5_playBoth 164 = .ok (.istore 9, 2) := by decide +kernel
theorem dX5_playBoth_166 : decode cX5_playBoth 166 = .ok (.iload 5, 2) := by decide +kernel
theorem dX5_playBoth_168 : decode cX5_playBoth 168 = .ok (.iload 8, 2) := by decide +kernel
theorem dX5_playBoth_170 : decode cX5_playBoth 170 = .ok (.ifCond .eq 7, 3) := by decide +kernel
theorem dX5_playBoth_173 : decode cX5_playBoth 173 = .ok (.iconst 0, 1) := by decide +kernel
theorem dX5_playBoth_174 : decode cX5_playBoth 174 = .ok (.goto 4, 3) := by decide +kernel
theorem dX5_playBoth_177 : decode cX5_playBoth 177 = .ok (.iconst 1, 1) := by decide +kernel
theorem dX5_playBoth_178 : decode cX5_playBoth 178 = .ok (.iadd, 1) := by decide +kernel
theorem dX5_playBoth_179 : decode cX5_playBoth 179 = .ok (.istore 5, 2) := by decide +kernel
theorem dX5_playBoth_181 : decode cX5_playBoth 181 = .ok (.iload 6, 2) := by decide +kernel
theorem dX5_playBoth_183 : decode cX5_playBoth 183 = .ok (.iload 8, 2) := by decide +kernel
theorem dX5_playBoth_185 : decode cX5_playBoth 185 = .ok (.ifCond .eq 7, 3) := by decide +kernel
theorem dX5_playBoth_188 : decode cX5_playBoth 188 = .ok (.iconst 1, 1) := by decide +kernel
theorem dX5_playBoth_189 : decode cX5_playBoth 189 = .ok (.goto 4, 3) := by decide +kernel
theorem dX5_playBoth_192 : decode cX5_playBoth 192 = .ok (.iconst 0, 1) := by decide +kernel
theorem dX5_playBoth_193 : decode cX5_playBoth 193 = .ok (.iadd, 1) := by decide +kernel
theorem dX5_playBoth_194 : decode cX5_playBoth 194 = .ok (.istore 6, 2) := by decide +kernel
theorem dX5_playBoth_196 : decode cX5_playBoth 196 = .ok (.iinc 7 1, 3) := by decide +kernel
theorem dX5_playBoth_199 : decode cX5_playBoth 199 = .ok (.goto (-139), 3) := by decide +kernel
theorem dX5_playBoth_202 : decode cX5_playBoth 202 = .ok (.aload_n 0, 1) := by decide +kernel
theorem dX5_playBoth_203 : decode cX5_playBoth 203 = .ok (.getfield 16, 3) := by decide +kernel
theorem dX5_playBoth_206 : decode cX5_playBoth 206 = .ok (.iload 4, 2) := by decide +kernel
theorem dX5_playBoth_208 : decode cX5_playBoth 208 = .ok (.iaload, 1) := by decide +kernel
theorem dX5_playBoth_209 : decode cX5_playBoth 209 = .ok (.ireturn, 1) := by decide +kernel
theorem dX5_hasKey_0 : decode cX5_hasKey 0 = .ok (.iconst 0, 1) := by decide +kernel
theorem dX5_hasKey_1 : decode cX5_hasKey 1 = .ok (.istore_n 3, 1) := by decide +kernel
theorem dX5_hasKey_2 : decode cX5_hasKey 2 = .ok (.iconst 0, 1) := by decide +kernel
theorem dX5_hasKey_3 : decode cX5_hasKey 3 = .ok (.istore 4, 2) := by decide +kernel
theorem dX5_hasKey_5 : decode cX5_hasKey 5 = .ok (.iload 4, 2) := by decide +kernel
theorem dX5_hasKey_7 : decode cX5_hasKey 7 = .ok (.aload_n 0, 1) := by decide +kernel
theorem dX5_hasKey_8 : decode cX5_hasKey 8 = .ok (.getfield 51, 3) := by decide +kernel
theorem dX5_hasKey_11 : decode cX5_hasKey 11 = .ok (.iload_n 1, 1) := by decide +kernel
theorem dX5_hasKey_12 : decode cX5_hasKey 12 = .ok (.iaload, 1) := by decide +kernel
theorem dX5_hasKey_13 : decode cX5_hasKey 13 = .ok (.if_icmp .ge 35, 3) := by decide +kernel
theorem dX5_hasKey_16 : decode cX5_hasKey 16 = .ok (.iload_n 3, 1) := by decide +kernel
theorem dX5_hasKey_17 : decode cX5_hasKey 17 = .ok (.ifCond .ne 19, 3) := by decide +kernel
theorem dX5_hasKey_20 : decode cX5_hasKey 20 = .ok (.aload_n 0, 1) := by decide +kernel
theorem dX5_hasKey_21 : decode cX5_hasKey 21 = .ok (.getfield 45, 3) := by decide +kernel
theorem dX5_hasKey_24 : decode cX5_hasKey 24 = .ok (.bipush 30, 2) := by decide +kernel
theorem dX5_hasKey_26 : decode cX5_hasKey 26 = .ok (.iload_n 1, 1) := by decide +kernel
theorem dX5_hasKey_27 : decode cX5_hasKey 27 = .ok (.imul, 1) := by decide +kernel
theorem dX5_hasKey_28 : decode cX5_hasKey 28 = .ok (.iload 4, 2) := by decide +kernel
theorem dX5_hasKey_30 : decode cX5_hasKey 30 = .ok (.iadd, 1) := by decide +kernel
theorem dX5_hasKey_31 : decode cX5_hasKey 31 = .ok (.iaload, 1) := by decide +kernel
theorem dX5_hasKey_32 : decode cX5_hasKey 32 = .ok (.iload_n 2, 1) := by decide +kernel
theorem dX5_hasKey_33 : decode cX5_hasKey 33 = .ok (.if_icmp .ne 7, 3) := by decide +kernel
theorem dX5_hasKey_36 : decode cX5_hasKey 36 = .ok (.iconst 1, 1) := by decide +kernel
theorem dX5_hasKey_37 : decode cX5_hasKey 37 = .ok (.goto 4, 3) := by decide +kernel
theorem dX5_hasKey_40 : decode cX5_hasKey 40 = .ok (.iconst 0, 1) := by decide +kernel
theorem dX5_hasKey_41 : decode cX5_hasKey 41 = .ok (.istore_n 3, 1) := by decide +kernel
theorem dX5_hasKey_42 : decode cX5_hasKey 42 = .ok (.iinc 4 1, 3) := by decide +kernel
theorem dX5_hasKey_45 : decode cX5_hasKey 45 = .ok (.goto (-40), 3) := by decide +kernel
theorem dX5_hasKey_48 : decode cX5_hasKey 48 = .ok (.iload_n 3, 1) := by decide +kernel
theorem dX5_hasKey_49 : decode cX5_hasKey 49 = .ok (.ireturn, 1) := by decide +kernel
theorem dX5_meet_0 : decode cX5_meet 0 = .ok (.aload_n 0, 1) := by decide +kernel
theorem dX5_meet_1 : decode cX5_meet 1 = .ok (.iload_n 1, 1) := by decide +kernel
theorem dX5_meet_2 : decode cX5_meet 2 = .ok (.invokestatic 136, 3) := by decide +kernel
theorem dX5_meet_5 : decode cX5_meet 5 = .ok (.ifCond .eq 10, 3) := by decide +kernel
theorem dX5_meet_8 : decode cX5_meet 8 = .ok (.iload_n 2, 1) := by decide +kernel
theorem dX5_meet_9 : decode cX5_meet 9 = .ok (.invokestatic 136, 3) := by decide +kernel
theorem dX5_meet_12 : decode cX5_meet 12 = .ok (.ifCond .ne 7, 3) := by decide +kernel
theorem dX5_meet_15 : decode cX5_meet 15 = .ok (.iconst 1, 1) := by decide +kernel
theorem dX5_meet_16 : decode cX5_meet 16 = .ok (.goto 4, 3) := by decide +kernel
theorem dX5_meet_19 : decode cX5_meet 19 = .ok (.iconst 0, 1) := by decide +kernel
theorem dX5_meet_20 : decode cX5_meet 20 = .ok (.invokevirtual 95, 3) := by decide +kernel
theorem dX5_meet_23 : decode cX5_meet 23 = .ok (.ifCond .eq 5, 3) := by decide +kernel
theorem dX5_meet_26 : decode cX5_meet 26 = .ok (.iconst 0, 1) := by decide +kernel
theorem dX5_meet_27 : decode cX5_meet 27 = .ok (.ireturn, 1) := by decide +kernel
theorem dX5_meet_28 : decode cX5_meet 28 = .ok (.aload_n 0, 1) := by decide +kernel
theorem dX5_meet_29 : decode cX5_meet 29 = .ok (.iconst 0, 1) := by decide +kernel
theorem dX5_meet_30 : decode cX5_meet 30 = .ok (.putfield 143, 3) := by decide +kernel
theorem dX5_meet_33 : decode cX5_meet 33 = .ok (.aload_n 0, 1) := by decide +kernel
theorem dX5_meet_34 : decode cX5_meet 34 = .ok (.iload_n 1, 1) := by decide +kernel
theorem dX5_meet_35 : decode cX5_meet 35 = .ok (.iconst (-1), 1) := by decide +kernel
theorem dX5_meet_36 : decode cX5_meet 36 = .ok (.invokevirtual 146, 3) := by decide +kernel
theorem dX5_meet_39 : decode cX5_meet 39 = .ok (.iconst 0, 1) := by decide +kernel
theorem dX5_meet_40 : decode cX5_meet 40 = .ok (.istore_n 3, 1) := by decide +kernel
theorem dX5_meet_41 : decode cX5_meet 41 = .ok (.iconst 0, 1) := by decide +kernel
theorem dX5_meet_42 : decode cX5_meet 42 = .ok (.istore 4, 2) := by decide +kernel
theorem dX5_meet_44 : decode cX5_meet 44 = .ok (.iload 4, 2) := by decide +kernel
theorem dX5_meet_46 : decode cX5_meet 46 = .ok (.aload_n 0, 1) := by decide +kernel
theorem dX5_meet_47 : decode cX5_meet 47 = .ok (.getfield 143, 3) := by decide +kernel
theorem dX5_meet_50 : decode cX5_meet 50 = .ok (.if_icmp .ge 32, 3) := by decide +kernel
theorem dX5_meet_53 : decode cX5_meet 53 = .ok (.iload_n 3, 1) := by decide +kernel
theorem dX5_meet_54 : decode cX5_meet 54 = .ok (.aload_n 0, 1) := by decide +kernel
theorem dX5_meet_55 : decode cX5_meet 55 = .ok (.iload_n 2, 1) := by decide +kernel
theorem dX5_meet_56 : decode cX5_meet 56 = .ok (.aload_n 0, 1) := by decide +kernel
theorem dX5_meet_57 : decode cX5_meet 57 = .ok (.getfield 54, 3) := by decide +kernel
theorem dX5_meet_60 : decode cX5_meet 60 = .ok (.iload 4, 2) := by decide +kernel
theorem dX5_meet_62 : decode cX5_meet 62 = .ok (.iaload, 1) := by decide +kernel
theorem dX5_meet_63 : decode cX5_meet 63 = .ok (.invokevirtual 155, 3) := by decide +kernel
theorem dX5_meet_66 : decode cX5_meet 66 = .ok (.ifCond .eq 7, 3) := by decide +kernel
theorem dX5_meet_69 : decode cX5_meet 69 = .ok (.iconst 1, 1) := by decide +kernel
theorem dX5_meet_70 : decode cX5_meet 70 = .ok (.goto 4, 3) := by decide +kernel
theorem dX5_meet_73 : decode cX5_meet 73 = .ok (.iconst 0, 1) := by decide +kernel
theorem dX5_meet_74 : decode cX5_meet 74 = .ok (.iadd, 1) := by decide +kernel
theorem dX5_meet_75 : decode cX5_meet 75 = .ok (.istore_n 3, 1) := by decide +kernel
theorem dX5_meet_76 : decode cX5_meet 76 = .ok (.iinc 4 1, 3) := by decide +kernel
theorem dX5_meet_79 : decode cX5_meet 79 = .ok (.goto (-35), 3) := by decide +kernel
theorem dX5_meet_82 : decode cX5_meet 82 = .ok (.iload_n 3, 1) := by decide +kernel
theorem dX5_meet_83 : decode cX5_meet 83 = .ok (.ireturn, 1) := by decide +kernel
theorem dX5_opposite_0 : decode cX5_opposite 0 = .ok (.aload_n 0, 1) := by decide +kernel
theorem dX5_opposite_1 : decode cX5_opposite 1 = .ok (.iload_n 1, 1) := by decide +kernel
theorem dX5_opposite_2 : decode cX5_opposite 2 = .ok (.invokestatic 136, 3) := by decide +kernel
theorem dX5_opposite_5 : decode cX5_opposite 5 = .ok (.ifCond .eq 17, 3) := by decide +kernel
theorem dX5_opposite_8 : decode cX5_opposite 8 = .ok (.iload_n 2, 1) := by decide +kernel
theorem dX5_opposite_9 : decode cX5_opposite 9 = .ok (.invokestatic 87, 3) := by decide +kernel
theorem dX5_opposite_12 : decode cX5_opposite 12 = .ok (.ifCond .eq 10, 3) := by decide +kernel
theorem dX5_opposite_15 : decode cX5_opposite 15 = .ok (.iload_n 3, 1) := by decide +kernel
theorem dX5_opposite_16 : decode cX5_opposite 16 = .ok (.invokestatic 136, 3) := by decide +kernel
theorem dX5_opposite_19 : decode cX5_opposite 19 = .ok (.ifCond .ne 7, 3) := by decide +kernel
theorem dX5_opposite_22 : decode cX5_opposite 22 = .ok (.iconst 1, 1) := by decide +kernel
theorem dX5_opposite_23 : decode cX5_opposite 23 = .ok (.goto 4, 3) := by decide +kernel
theorem dX5_opposite_26 : decode cX5_opposite 26 = .ok (.iconst 0, 1) := by decide +kernel
theorem dX5_opposite_27 : decode cX5_opposite 27 = .ok (.invokevirtual 95, 3) := by decide +kernel
theorem dX5_opposite_30 : decode cX5_opposite 30 = .ok (.ifCond .eq 5, 3) := by decide +kernel
theorem dX5_opposite_33 : decode cX5_opposite 33 = .ok (.iconst 0, 1) := by decide +kernel
theorem dX5_opposite_34 : decode cX5_opposite 34 = .ok (.ireturn, 1) := by decide +kernel
theorem dX5_opposite_35 : decode cX5_opposite 35 = .ok (.aload_n 0, 1) := by decide +kernel
theorem dX5_opposite_36 : decode cX5_opposite 36 = .ok (.iconst 0, 1) := by decide +kernel
theorem dX5_opposite_37 : decode cX5_opposite 37 = .ok (.putfield 143, 3) := by decide +kernel
theorem dX5_opposite_40 : decode cX5_opposite 40 = .ok (.aload_n 0, 1) := by decide +kernel
theorem dX5_opposite_41 : decode cX5_opposite 41 = .ok (.iload_n 1, 1) := by decide +kernel
theorem dX5_opposite_42 : decode cX5_opposite 42 = .ok (.iconst (-1), 1) := by decide +kernel
theorem dX5_opposite_43 : decode cX5_opposite 43 = .ok (.invokevirtual 146, 3) := by decide +kernel
theorem dX5_opposite_46 : decode cX5_opposite 46 = .ok (.aload_n 0, 1) := by decide +kernel
theorem dX5_opposite_47 : decode cX5_opposite 47 = .ok (.getfield 51, 3) := by decide +kernel
theorem dX5_opposite_50 : decode cX5_opposite 50 = .ok (.iload_n 3, 1) := by decide +kernel
theorem dX5_opposite_51 : decode cX5_opposite 51 = .ok (.iconst 0, 1) := by decide +kernel
theorem dX5_opposite_52 : decode cX5_opposite 52 = .ok (.iastore, 1) := by decide +kernel
theorem dX5_opposite_53 : decode cX5_opposite 53 = .ok (.iconst 0, 1) := by decide +kernel
theorem dX5_opposite_54 : decode cX5_opposite 54 = .ok (.istore 4, 2) := by decide +kernel
theorem dX5_opposite_56 : decode cX5_opposite 56 = .ok (.iload 4, 2) := by decide +kernel
theorem dX5_opposite_58 : decode cX5_opposite 58 = .ok (.aload_n 0, 1) := by decide +kernel
theorem dX5_opposite_59 : decode cX5_opposite 59 = .ok (.getfield 143, 3) := by decide +kernel
theorem dX5_opposite_62 : decode cX5_opposite 62 = .ok (.if_icmp .ge 68, 3) := by decide +kernel
theorem dX5_opposite_65 : decode cX5_opposite 65 = .ok (.aload_n 0, 1) := by decide +kernel
theorem dX5_opposite_66 : decode cX5_opposite 66 = .ok (.iload_n 2, 1) := by decide +kernel
theorem dX5_opposite_67 : decode cX5_opposite 67 = .ok (.aload_n 0, 1) := by decide +kernel
theorem dX5_opposite_68 : decode cX5_opposite 68 = .ok (.getfield 54, 3) := by decide +kernel
theorem dX5_opposite_71 : decode cX5_opposite 71 = .ok (.iload 4, 2) := by decide +kernel
theorem dX5_opposite_73 : decode cX5_opposite 73 = .ok (.iaload, 1) := by decide +kernel
theorem dX5_opposite_74 : decode cX5_opposite 74 = .ok (.invokevirtual 68, 3) := by decide +kernel
theorem dX5_opposite_77 : decode cX5_opposite 77 = .ok (.istore 5, 2) := by decide +kernel
theorem dX5_opposite_79 : decode cX5_opposite 79 = .ok (.aload_n 0, 1) := by decide +kernel
theorem dX5_opposite_80 : decode cX5_opposite 80 = .ok (.iload_n 3, 1) := by decide +kernel
theorem dX5_opposite_81 : decode cX5_opposite 81 = .ok (.iload 5, 2) := by decide +kernel
theorem dX5_opposite_83 : decode cX5_opposite 83 = .ok (.ifCond .ge 8, 3) := by decide +kernel
theorem dX5_opposite_86 : decode cX5_opposite 86 = .ok (.bipush 114, 2) := by decide +kernel
theorem dX5_opposite_88 : decode cX5_opposite 88 = .ok (.goto 5, 3) := by decide +kernel
theorem dX5_opposite_91 : decode cX5_opposite 91 = .ok (.bipush 112, 2) := by decide +kernel
theorem dX5_opposite_93 : decode cX5_opposite 93 = .ok (.aload_n 0, 1) := by decide +kernel
theorem dX5_opposite_94 : decode cX5_opposite 94 = .ok (.getfield 54, 3) := by decide +kernel
theorem dX5_opposite_97 : decode cX5_opposite 97 = .ok (.iload 4, 2) := by decide +kernel
theorem dX5_opposite_99 : decode cX5_opposite 99 = .ok (.iaload, 1) := by decide +kernel
theorem dX5_opposite_100 : decode cX5_opposite 100 = .ok (.iload 5, 2) := by decide +kernel
theorem dX5_opposite_102 : decode cX5_opposite 102 = .ok (.ifCond .ge 7, 3) := by decide +kernel
theorem dX5_opposite_105 : decode cX5_opposite 105 = .ok (.iconst 0, 1) := by decide +kernel
theorem dX5_opposite_106 : decode cX5_opposite 106 = .ok (.goto 15, 3) := by decide +kernel
theorem dX5_opposite_109 : decode cX5_opposite 109 = .ok (.aload_n 0, 1) := by decide +kernel
theorem dX5_opposite_110 : decode cX5_opposite 110 = .ok (.getfield 13, 3) := by decide +kernel
theorem dX5_opposite_113 : decode cX5_opposite 113 = .ok (.bipush 60, 2) := by decide +kernel
theorem dX5_opposite_115 : decode cX5_opposite 115 = .ok (.iload_n 2, 1) := by decide +kernel
theorem dX5_opposite_116 : decode cX5_opposite 116 = .ok (.imul, 1) := by decide +kernel
theorem dX5_opposite_117 : decode cX5_opposite 117 = .ok (.iload 5, 2) := by decide +kernel
theorem dX5_opposite_119 : decode cX5_opposite 119 = .ok (.iadd, 1) := by decide +kernel
theorem dX5_opposite_120 : decode cX5_opposite 120 = .ok (.iaload, 1) := by decide +kernel
theorem dX5_opposite_121 : decode cX5_opposite 121 = .ok (.invokevirtual 139, 3) := by decide +kernel
theorem dX5_opposite_124 : decode cX5_opposite 124 = .ok (.iinc 4 1, 3) := by decide +kernel
theorem dX5_opposite_127 : decode cX5_opposite 127 = .ok (.goto (-71), 3) := by decide +kernel
theorem dX5_opposite_130 : decode cX5_opposite 130 = .ok (.aload_n 0, 1) := by decide +kernel
theorem dX5_opposite_131 : decode cX5_opposite 131 = .ok (.getfield 51, 3) := by decide +kernel
theorem dX5_opposite_134 : decode cX5_opposite 134 = .ok (.iload_n 3, 1) := by decide +kernel
theorem dX5_opposite_135 : decode cX5_opposite 135 = .ok (.iaload, 1) := by decide +kernel
theorem dX5_opposite_136 : decode cX5_opposite 136 = .ok (.ireturn, 1) := by decide +kernel
theorem dX5_manyTogether_0 : decode cX5_manyTogether 0 = .ok (.aload_n 0, 1) := by decide +kernel
theorem dX5_manyTogether_1 : decode cX5_manyTogether 1 = .ok (.getfield 16, 3) := by decide +kernel
theorem dX5_manyTogether_4 : decode cX5_manyTogether 4 = .ok (.iload_n 2, 1) := by decide +kernel
theorem dX5_manyTogether_5 : decode cX5_manyTogether 5 = .ok (.iaload, 1) := by decide +kernel
theorem dX5_manyTogether_6 : decode cX5_manyTogether 6 = .ok (.istore_n 3, 1) := by decide +kernel
theorem dX5_manyTogether_7 : decode cX5_manyTogether 7 = .ok (.iconst 0, 1) := by decide +kernel
theorem dX5_manyTogether_8 : decode cX5_manyTogether 8 = .ok (.istore 4, 2) := by decide +kernel
theorem dX5_manyTogether_10 : decode cX5_manyTogether 10 = .ok (.iload 4, 2) := by decide +kernel
theorem dX5_manyTogether_12 : decode cX5_manyTogether 12 = .ok (.aload_n 0, 1) := by decide +kernel
theorem dX5_manyTogether_13 : decode cX5_manyTogether 13 = .ok (.getfield 16, 3) := by decide +kernel
theorem dX5_manyTogether_16 : decode cX5_manyTogether 16 = .ok (.iload_n 1, 1) := by decide +kernel
theorem dX5_manyTogether_17 : decode cX5_manyTogether 17 = .ok (.iaload, 1) := by decide +kernel
theorem dX5_manyTogether_18 : decode cX5_manyTogether 18 = .ok (.if_icmp .ge 37, 3) := by decide +kernel
theorem dX5_manyTogether_21 : decode cX5_manyTogether 21 = .ok (.iload_n 3, 1) := by decide +kernel
theorem dX5_manyTogether_22 : decode cX5_manyTogether 22 = .ok (.aload_n 0, 1) := by decide +kernel
theorem dX5_manyTogether_23 : decode cX5_manyTogether 23 = .ok (.iload_n 2, 1) := by decide +kernel
theorem dX5_manyTogether_24 : decode cX5_manyTogether 24 = .ok (.aload_n 0, 1) := by decide +kernel
theorem dX5_manyTogether_25 : decode cX5_manyTogether 25 = .ok (.getfield 7, 3) := by decide +kernel
theorem dX5_manyTogether_28 : decode cX5_manyTogether 28 = .ok (.bipush 60, 2) := by decide +kernel
theorem dX5_manyTogether_30 : decode cX5_manyTogether 30 = .ok (.iload_n 1, 1) := by decide +kernel
theorem dX5_manyTogether_31 : decode cX5_manyTogether 31 = .ok (.imul, 1) := by decide +kernel
theorem dX5_manyTogether_32 : decode cX5_manyTogether 32 = .ok (.iload 4, 2) := by decide +kernel
theorem dX5_manyTogether_34 : decode cX5_manyTogether 34 = .ok (.iadd, 1) := by decide +kernel
theorem dX5_manyTogether_35 : decode cX5_manyTogether 35 = .ok (.iaload, 1) := by decide +kernel
theorem dX5_manyTogether_36 : decode cX5_manyTogether 36 = .ok (.invokevirtual 91, 3) := by decide +kernel
theorem dX5_manyTogether_39 : decode cX5_manyTogether 39 = .ok (.ifCond .eq 7, 3) := by decide +kernel
theorem dX5_manyTogether_42 : decode cX5_manyTogether 42 = .ok (.iconst 0, 1) := by decide +kernel
theorem dX5_manyTogether_43 : decode cX5_manyTogether 43 = .ok (.goto 4, 3) := by decide +kernel
theorem dX5_manyTogether_46 : decode cX5_manyTogether 46 = .ok (.iconst 1, 1) := by decide +kernel
theorem dX5_manyTogether_47 : decode cX5_manyTogether 47 = .ok (.iadd, 1) := by decide +kernel
theorem dX5_manyTogether_48 : decode cX5_manyTogether 48 = .ok (.istore_n 3, 1) := by decide +kernel
theorem dX5_manyTogether_49 : decode cX5_manyTogether 49 = .ok (.iinc 4 1, 3) := by decide +kernel
theorem dX5_manyTogether_52 : decode cX5_manyTogether 52 = .ok (.goto (-42), 3) := by decide +kernel
theorem dX5_manyTogether_55 : decode cX5_manyTogether 55 = .ok (.iload_n 3, 1) := by decide +kernel
theorem dX5_manyTogether_56 : decode cX5_manyTogether 56 = .ok (.ireturn, 1) := by decide +kernel
theorem dX5_combine_0 : decode cX5_combine 0 = .ok (.iload_n 3, 1) := by decide +kernel
theorem dX5_combine_1 : decode cX5_combine 1 = .ok (.bipush 115, 2) := by decide +kernel
theorem dX5_combine_3 : decode cX5_combine 3 = .ok (.if_icmp .eq 15, 3) := by decide +kernel
theorem dX5_combine_6 : decode cX5_combine 6 = .ok (.iload_n 3, 1) := by decide +kernel
theorem dX5_combine_7 : decode cX5_combine 7 = .ok (.bipush 103, 2) := by decide +kernel
theorem dX5_combine_9 : decode cX5_combine 9 = .ok (.if_icmp .eq 9, 3) := by decide +kernel
theorem dX5_combine_12 : decode cX5_combine 12 = .ok (.iload_n 3, 1) := by decide +kernel
theorem dX5_combine_13 : decode cX5_combine 13 = .ok (.bipush 108, 2) := by decide +kernel
theorem dX5_combine_15 : decode cX5_combine 15 = .ok (.if_icmp .ne 7, 3) := by decide +kernel
theorem dX5_combine_18 : decode cX5_combine 18 = .ok (.iconst 1, 1) := by decide +kernel
theorem dX5_combine_19 : decode cX5_combine 19 = .ok (.goto 4, 3) := by decide +kernel
theorem dX5_combine_22 : decode cX5_combine 22 = .ok (.iconst 0, 1) := by decide +kernel
theorem dX5_combine_23 : decode cX5_combine 23 = .ok (.istore 4, 2) := by decide +kernel
theorem dX5_combine_25 : decode cX5_combine 25 = .ok (.aload_n 0, 1) := by decide +kernel
theorem dX5_combine_26 : decode cX5_combine 26 = .ok (.iload_n 1, 1) := by decide +kernel
theorem dX5_combine_27 : decode cX5_combine 27 = .ok (.invokestatic 87, 3) := by decide +kernel
theorem dX5_combine_30 : decode cX5_combine 30 = .ok (.ifCond .eq 10, 3) := by decide +kernel
theorem dX5_combine_33 : decode cX5_combine 33 = .ok (.iload_n 2, 1) := by decide +kernel
theorem dX5_combine_34 : decode cX5_combine 34 = .ok (.invokestatic 87, 3) := by decide +kernel
theorem dX5_combine_37 : decode cX5_combine 37 = .ok (.ifCond .ne 7, 3) := by decide +kernel
theorem dX5_combine_40 : decode cX5_combine 40 = .ok (.iconst 1, 1) := by decide +kernel
theorem dX5_combine_41 : decode cX5_combine 41 = .ok (.goto 33, 3) := by decide +kernel
theorem dX5_combine_44 : decode cX5_combine 44 = .ok (.iload 4, 2) := by decide +kernel
theorem dX5_combine_46 : decode cX5_combine 46 = .ok (.ifCond .eq 8, 3) := by decide +kernel
theorem dX5_combine_49 : decode cX5_combine 49 = .ok (.iload_n 1, 1) := by decide +kernel
theorem dX5_combine_50 : decode cX5_combine 50 = .ok (.iload_n 2, 1) := by decide +kernel
theorem dX5_combine_51 : decode cX5_combine 51 = .ok (.if_icmp .ne 7, 3) := by decide +kernel
theorem dX5_combine_54 : decode cX5_combine 54 = .ok (.iconst 2, 1) := by decide +kernel
theorem dX5_combine_55 : decode cX5_combine 55 = .ok (.goto 19, 3) := by decide +kernel
theorem dX5_combine_58 : decode cX5_combine 58 = .ok (.aload_n 0, 1) := by decide +kernel
theorem dX5_combine_59 : decode cX5_combine 59 = .ok (.iload_n 1, 1) := by decide +kernel
theorem dX5_combine_60 : decode cX5_combine 60 = .ok (.iload_n 2, 1) := by decide +kernel
theorem dX5_combine_61 : decode cX5_combine 61 = .ok (.invokevirtual 158, 3) := by decide +kernel
theorem dX5_combine_64 : decode cX5_combine 64 = .ok (.bipush 60, 2) := by decide +kernel
theorem dX5_combine_66 : decode cX5_combine 66 = .ok (.if_icmp .le 7, 3) := by decide +kernel
theorem dX5_combine_69 : decode cX5_combine 69 = .ok (.iconst 3, 1) := by decide +kernel
theorem dX5_combine_70 : decode cX5_combine 70 = .ok (.goto 4, 3) := by decide +kernel
theorem dX5_combine_73 : decode cX5_combine 73 = .ok (.iconst 0, 1) := by decide +kernel
theorem dX5_combine_74 : decode cX5_combine 74 = .ok (.invokevirtual 95, 3) := by decide +kernel
theorem dX5_combine_77 : decode cX5_combine 77 = .ok (.ifCond .eq 5, 3) := by decide +kernel
theorem dX5_combine_80 : decode cX5_combine 80 = .ok (.iconst 0, 1) := by decide +kernel
theorem dX5_combine_81 : decode cX5_combine 81 = .ok (.ireturn, 1) := by decide +kernel
theorem dX5_combine_82 : decode cX5_combine 82 = .ok (.iconst 0, 1) := by decide +kernel
theorem dX5_combine_83 : decode cX5_combine 83 = .ok (.istore 5, 2) := by decide +kernel
theorem dX5_combine_85 : decode cX5_combine 85 = .ok (.iload 5, 2) := by decide +kernel
theorem dX5_combine_87 : decode cX5_combine 87 = .ok (.aload_n 0, 1) := by decide +kernel
theorem dX5_combine_88 : decode cX5_combine 88 = .ok (.getfield 16, 3) := by decide +kernel
theorem dX5_combine_91 : decode cX5_combine 91 = .ok (.iload_n 1, 1) := by decide +kernel
theorem dX5_combine_92 : decode cX5_combine 92 = .ok (.iaload, 1) := by decide +kernel
theorem dX5_combine_93 : decode cX5_combine 93 = .ok (.if_icmp .ge 143, 3) := by decide +kernel
theorem dX5_combine_96 : decode cX5_combine 96 = .ok (.aload_n 0, 1) := by decide +kernel
theorem dX5_combine_97 : decode cX5_combine 97 = .ok (.getfield 7, 3) := by decide +kernel
theorem dX5_combine_100 : decode cX5_combine 100 = .ok (.bipush 60, 2) := by decide +kernel
theorem dX5_combine_102 : decode cX5_combine 102 = .ok (.iload_n 1, 1) := by decide +kernel
theorem dX5_combine_103 : decode cX5_combine 103 = .ok (.imul, 1) := by decide +kernel
theorem dX5_combine_104 : decode cX5_combine 104 = .ok (.iload 5, 2) := by decide +kernel
theorem dX5_combine_106 : decode cX5_combine 106 = .ok (.iadd, 1) := by decide +kernel
theorem dX5_combine_107 : decode cX5_combine 107 = .ok (.iaload, 1) := by decide +kernel
theorem dX5_combine_108 : decode cX5_combine 108 = .ok (.istore 6, 2) := by decide +kernel
theorem dX5_combine_110 : decode cX5_combine 110 = .ok (.aload_n 0, 1) := by decide +kernel
theorem dX5_combine_111 : decode cX5_combine 111 = .ok (.getfield 13, 3) := by decide +kernel
theorem dX5_combine_114 : decode cX5_combine 114 = .ok (.bipush 60, 2) := by decide +kernel
theorem dX5_combine_116 : decode cX5_combine 116 = .ok (.iload_n 1, 1) := by decide +kernel
theorem dX5_combine_117 : decode cX5_combine 117 = .ok (.imul, 1) := by decide +kernel
theorem dX5_combine_118 : decode cX5_combine 118 = .ok (.iload 5, 2) := by decide +kernel
theorem dX5_combine_120 : decode cX5_combine 120 = .ok (.iadd, 1) := by decide +kernel
theorem dX5_combine_121 : decode cX5_combine 121 = .ok (.iaload, 1) := by decide +kernel
theorem dX5_combine_122 : decode cX5_combine 122 = .ok (.istore 7, 2) := by decide +kernel
theorem dX5_combine_124 : decode cX5_combine 124 = .ok (.aload_n 0, 1) := by decide +kernel
theorem dX5_combine_125 : decode cX5_combine 125 = .ok (.iload_n 2, 1) := by decide +kernel
theorem dX5_combine_126 : decode cX5_combine 126 = .ok (.iload 6, 2) := by decide +kernel
theorem dX5_combine_128 : decode cX5_combine 128 = .ok (.invokevirtual 68, 3) := by decide +kernel
theorem dX5_combine_131 : decode cX5_combine 131 = .ok (.istore 8, 2) := by decide +kernel
theorem dX5_combine_133 : decode cX5_combine 133 = .ok (.iload 8, 2) := by decide +kernel
theorem dX5_combine_135 : decode cX5_combine 135 = .ok (.ifCond .ge 8, 3) := by decide +kernel
theorem dX5_combine_138 : decode cX5_combine 138 = .ok (.iload 7, 2) := by decide +kernel
theorem dX5_combine_140 : decode cX5_combine 140 = .ok (.goto 15, 3) := by decide +kernel
theorem dX5_combine_143 : decode cX5_combine 143 = .ok (.aload_n 0, 1) := by decide +kernel
theorem dX5_combine_144 : decode cX5_combine 144 = .ok (.getfield 13, 3) := by decide +kernel
theorem dX5_combine_147 : decode cX5_combine 147 = .ok (.bipush 60, 2) := by decide +kernel
theorem dX5_combine_149 : decode cX5_combine 149 = .ok (.iload_n 2, 1) := by decide +kernel
theorem dX5_combine_150 : decode cX5_combine 150 = .ok (.imul, 1) := by decide +kernel
theorem dX5_combine_151 : decode cX5_combine 151 = .ok (.iload 8, 2) := by decide +kernel
theorem dX5_combine_153 : decode cX5_combine 153 = .ok (.iadd, 1) := by decide +kernel
theorem dX5_combine_154 : decode cX5_combine 154 = .ok (.iaload, 1) := by decide +kernel
theorem dX5_combine_155 : decode cX5_combine 155 = .ok (.istore 9, 2) := by decide +kernel
theorem dX5_combine_157 : decode cX5_combine 157 = .ok (.iload 8, 2) := by decide +kernel
theorem dX5_combine_159 : decode cX5_combine 159 = .ok (.ifCond .lt 26, 3) := by decide +kernel
theorem dX5_combine_162 : decode cX5_combine 162 = .ok (.iload_n 3, 1) := by decide +kernel
theorem dX5_combine_163 : decode cX5_combine 163 = .ok (.bipush 103, 2) := by decide +kernel
theorem dX5_combine_165 : decode cX5_combine 165 = .ok (.if_icmp .ne 13, 3) := by decide +kernel
theorem dX5_combine_168 : decode cX5_combine 168 = .ok (.iload 7, 2) := by decide +kernel
theorem dX5_combine_170 : decode cX5_combine 170 = .ok (.iload 9, 2) := by decide +kernel
theorem dX5_combine_172 : decode cX5_combine 172 = .ok (.if_icmp .le 17, 3) := by decide +kernel
theorem dX5_combine_175 : decode cX5_combine 175 = .ok (.goto 10, 3) := by decide +kernel
theorem dX5_combine_178 : decode cX5_combine 178 = .ok (.iload 7, 2) := by decide +kernel
theorem dX5_combine_180 : decode cX5_combine 180 = .ok (.iload 9, 2) := by decide +kernel
theorem dX5_combine_182 : decode cX5_combine 182 = .ok (.if_icmp .ge 7, 3) := by decide +kernel
theorem dX5_combine_185 : decode cX5_combine 185 = .ok (.iconst 1, 1) := by decide +kernel
theorem dX5_combine_186 : decode cX5_combine 186 = .ok (.goto 4, 3) := by decide +kernel
theorem dX5_combine_189 : decode cX5_combine 189 = .ok (.iconst 0, 1) := by decide +kernel
theorem dX5_combine_190 : decode cX5_combine 190 = .ok (.istore 10, 2) := by decide +kernel
theorem dX5_combine_192 : decode cX5_combine 192 = .ok (.aload_n 0, 1) := by decide +kernel
theorem dX5_combine_193 : decode cX5_combine 193 = .ok (.iload_n 2, 1) := by decide +kernel
theorem dX5_combine_194 : decode cX5_combine 194 = .ok (.iload 6, 2) := by decide +kernel
theorem dX5_combine_196 : decode cX5_combine 196 = .ok (.iload 8, 2) := by decide +kernel
theorem dX5_combine_198 : decode cX5_combine 198 = .ok (.ifCond .lt 17, 3) := by decide +kernel
theorem dX5_combine_201 : decode cX5_combine 201 = .ok (.iload_n 3, 1) := by decide +kernel
theorem dX5_combine_202 : decode cX5_combine 202 = .ok (.bipush 115, 2) := by decide +kernel
theorem dX5_combine_204 : decode cX5_combine 204 = .ok (.if_icmp .ne 11, 3) := by decide +kernel
theorem dX5_combine_207 : decode cX5_combine 207 = .ok (.iload 7, 2) := by decide +kernel
theorem dX5_combine_209 : decode cX5_combine 209 = .ok (.iload 9, 2) := by decide +kernel
theorem dX5_combine_211 : decode cX5_combine 211 = .ok (.iadd, 1) := by decide +kernel
theorem dX5_combine_212 : decode cX5_combine 212 = .ok (.goto 15, 3) := by decide +kernel
theorem dX5_combine_215 : decode cX5_combine 215 = .ok (.iload 10, 2) := by decide +kernel
theorem dX5_combine_217 : decode cX5_combine 217 = .ok (.ifCond .eq 8, 3) := by decide +kernel
theorem dX5_combine_220 : decode cX5_combine 220 = .ok (.iload 7, 2) := by decide +kernel
theorem dX5_combine_222 : decode cX5_combine 222 = .ok (.goto 5, 3) := by decide +kernel
theorem dX5_combine_225 : decode cX5_combine 225 = .ok (.iload 9, 2) := by decide +kernel
theorem dX5_combine_227 : decode cX5_combine 227 = .ok (.invokevirtual 98, 3) := by decide +kernel
theorem dX5_combine_230 : decode cX5_combine 230 = .ok (.iinc 5 1, 3) := by decide +kernel
theorem dX5_combine_233 : decode cX5_combine 233 = .ok (.goto (-148), 3) := by decide +kernel
theorem dX5_combine_236 : decode cX5_combine 236 = .ok (.aload_n 0, 1) := by decide +kernel
theorem dX5_combine_237 : decode cX5_combine 237 = .ok (.getfield 16, 3) := by decide +kernel
theorem dX5_combine_240 : decode cX5_combine 240 = .ok (.iload_n 2, 1) := by decide +kernel
theorem dX5_combine_241 : decode cX5_combine 241 = .ok (.iaload, 1) := by decide +kernel
theorem dX5_combine_242 : decode cX5_combine 242 = .ok (.ireturn, 1) := by decide +kernel
theorem dX5_fullShare_0 : decode cX5_fullShare 0 = .ok (.aload_n 0, 1) := by decide +kernel
theorem dX5_fullShare_1 : decode cX5_fullShare 1 = .ok (.iload_n 1, 1) := by decide +kernel
theorem dX5_fullShare_2 : decode cX5_fullShare 2 = .ok (.invokestatic 87, 3) := by decide +kernel
theorem dX5_fullShare_5 : decode cX5_fullShare 5 = .ok (.ifCond .ne 7, 3) := by decide +kernel
theorem dX5_fullShare_8 : decode cX5_fullShare 8 = .ok (.iconst 1, 1) := by decide +kernel
theorem dX5_fullShare_9 : decode cX5_fullShare 9 = .ok (.goto 4, 3) := by decide +kernel
theorem dX5_fullShare_12 : decode cX5_fullShare 12 = .ok (.iconst 0, 1) := by decide +kernel
theorem dX5_fullShare_13 : decode cX5_fullShare 13 = .ok (.invokevirtual 95, 3) := by decide +kernel
theorem dX5_fullShare_16 : decode cX5_fullShare 16 = .ok (.ifCond .eq 7, 3) := by decide +kernel
theorem dX5_fullShare_19 : decode cX5_fullShare 19 = .ok (.fconst 0, 1) := by decide +kernel
theorem dX5_fullShare_20 : decode cX5_fullShare 20 = .ok (.goto 13, 3) := by decide +kernel
theorem dX5_fullShare_23 : decode cX5_fullShare 23 = .ok (.aload_n 0, 1) := by decide +kernel
theorem dX5_fullShare_24 : decode cX5_fullShare 24 = .ok (.getfield 16, 3) := by decide +kernel
theorem dX5_fullShare_27 : decode cX5_fullShare 27 = .ok (.iload_n 1, 1) := by decide +kernel
theorem dX5_fullShare_28 : decode cX5_fullShare 28 = .ok (.iaload, 1) := by decide +kernel
theorem dX5_fullShare_29 : decode cX5_fullShare 29 = .ok (.i2f, 1) := by decide +kernel
theorem dX5_fullShare_30 : decode cX5_fullShare 30 = .ok (.ldc 161, 2) := by decide +kernel
theorem dX5_fullShare_32 : decode cX5_fullShare 32 = .ok (.fdiv, 1) := by decide +kernel
theorem dX5_fullShare_33 : decode cX5_fullShare 33 = .ok (.freturn, 1) := by decide +kernel
theorem dX5_meanKey_0 : decode cX5_meanKey 0 = .ok (.aload_n 0, 1) := by decide +kernel
theorem dX5_meanKey_1 : decode cX5_meanKey 1 = .ok (.iload_n 1, 1) := by decide +kernel
theorem dX5_meanKey_2 : decode cX5_meanKey 2 = .ok (.invokestatic 87, 3) := by decide +kernel
theorem dX5_meanKey_5 : decode cX5_meanKey 5 = .ok (.ifCond .ne 7, 3) := by decide +kernel
theorem dX5_meanKey_8 : decode cX5_meanKey 8 = .ok (.iconst 1, 1) := by decide +kernel
theorem dX5_meanKey_9 : decode cX5_meanKey 9 = .ok (.goto 17, 3) := by decide +kernel
theorem dX5_meanKey_12 : decode cX5_meanKey 12 = .ok (.aload_n 0, 1) := by decide +kernel
theorem dX5_meanKey_13 : decode cX5_meanKey 13 = .ok (.getfield 16, 3) := by decide +kernel
theorem dX5_meanKey_16 : decode cX5_meanKey 16 = .ok (.iload_n 1, 1) := by decide +kernel
theorem dX5_meanKey_17 : decode cX5_meanKey 17 = .ok (.iaload, 1) := by decide +kernel
theorem dX5_meanKey_18 : decode cX5_meanKey 18 = .ok (.ifCond .ne 7, 3) := by decide +kernel
theorem dX5_meanKey_21 : decode cX5_meanKey 21 = .ok (.iconst 2, 1) := by decide +kernel
theorem dX5_meanKey_22 : decode cX5_meanKey 22 = .ok (.goto 4, 3) := by decide +kernel
theorem dX5_meanKey_25 : decode cX5_meanKey 25 = .ok (.iconst 0, 1) := by decide +kernel
theorem dX5_meanKey_26 : decode cX5_meanKey 26 = .ok (.invokevirtual 95, 3) := by decide +kernel
theorem dX5_meanKey_29 : decode cX5_meanKey 29 = .ok (.ifCond .eq 5, 3) := by decide +kernel
theorem dX5_meanKey_32 : decode cX5_meanKey 32 = .ok (.dconst 0, 1) := by decide +kernel
theorem dX5_meanKey_33 : decode cX5_meanKey 33 = .ok (.dreturn, 1) := by decide +kernel
theorem dX5_meanKey_34 : decode cX5_meanKey 34 = .ok (.lconst 0, 1) := by decide +kernel
theorem dX5_meanKey_35 : decode cX5_meanKey 35 = .ok (.lstore_n 2, 1) := by decide +kernel
theorem dX5_meanKey_36 : decode cX5_meanKey 36 = .ok (.iconst 0, 1) := by decide +kernel
theorem dX5_meanKey_37 : decode cX5_meanKey 37 = .ok (.istore 4, 2) := by decide +kernel
theorem dX5_meanKey_39 : decode cX5_meanKey 39 = .ok (.iload 4, 2) := by decide +kernel
theorem dX5_meanKey_41 : decode cX5_meanKey 41 = .ok (.aload_n 0, 1) := by decide +kernel
theorem dX5_meanKey_42 : decode cX5_meanKey 42 = .ok (.getfield 16, 3) := by decide +kernel
theorem dX5_meanKey_45 : decode cX5_meanKey 45 = .ok (.iload_n 1, 1) := by decide +kernel
theorem dX5_meanKey_46 : decode cX5_meanKey 46 = .ok (.iaload, 1) := by decide +kernel
theorem dX5_meanKey_47 : decode cX5_meanKey 47 = .ok (.if_icmp .ge 25, 3) := by decide +kernel
theorem dX5_meanKey_50 : decode cX5_meanKey 50 = .ok (.lload_n 2, 1) := by decide +kernel
theorem dX5_meanKey_51 : decode cX5_meanKey 51 = .ok (.aload_n 0, 1) := by decide +kernel
theorem dX5_meanKey_52 : decode cX5_meanKey 52 = .ok (.getfield 7, 3) := by decide +kernel
theorem dX5_meanKey_55 : decode cX5_meanKey 55 = .ok (.bipush 60, 2) := by decide +kernel
theorem dX5_meanKey_57 : decode cX5_meanKey 57 = .ok (.iload_n 1, 1) := by decide +kernel
theorem dX5_meanKey_58 : decode cX5_meanKey 58 = .ok (.imul, 1) := by decide +kernel
theorem dX5_meanKey_59 : decode cX5_meanKey 59 = .ok (.iload 4, 2) := by decide +kernel
theorem dX5_meanKey_61 : decode cX5_meanKey 61 = .ok (.iadd, 1) := by decide +kernel
theorem dX5_meanKey_62 : decode cX5_meanKey 62 = .ok (.iaload, 1) := by decide +kernel
theorem dX5_meanKey_63 : decode cX5_meanKey 63 = .ok (.i2l, 1) := by decide +kernel
theorem dX5_meanKey_64 : decode cX5_meanKey 64 = .ok (.ladd, 1) := by decide +kernel
theorem dX5_meanKey_65 : decode cX5_meanKey 65 = .ok (.lstore_n 2, 1) := by decide +kernel
theorem dX5_meanKey_66 : decode cX5_meanKey 66 = .ok (.iinc 4 1, 3) := by decide +kernel
theorem dX5_meanKey_69 : decode cX5_meanKey 69 = .ok (.goto (-30), 3) := by decide +kernel
theorem dX5_meanKey_72 : decode cX5_meanKey 72 = .ok (.lload_n 2, 1) := by decide +kernel
theorem dX5_meanKey_73 : decode cX5_meanKey 73 = .ok (.l2d, 1) := by decide +kernel
theorem dX5_meanKey_74 : decode cX5_meanKey 74 = .ok (.aload_n 0, 1) := by decide +kernel
theorem dX5_meanKey_75 : decode cX5_meanKey 75 = .ok (.getfield 16, 3) := by decide +kernel
theorem dX5_meanKey_78 : decode cX5_meanKey 78 = .ok (.iload_n 1, 1) := by decide +kernel
theorem dX5_meanKey_79 : decode cX5_meanKey 79 = .ok (.iaload, 1) := by decide +kernel
theorem dX5_meanKey_80 : decode cX5_meanKey 80 = .ok (.i2d, 1) := by decide +kernel
theorem dX5_meanKey_81 : decode cX5_meanKey 81 = .ok (.ddiv, 1) := by decide +kernel
theorem dX5_meanKey_82 : decode cX5_meanKey 82 = .ok (.dreturn, 1) := by decide +kernel
theorem dX5_checksum_0 : decode cX5_checksum 0 = .ok (.aload_n 0, 1) := by decide +kernel
theorem dX5_checksum_1 : decode cX5_checksum 1 = .ok (.iconst 0, 1) := by decide +kernel
theorem dX5_checksum_2 : decode cX5_checksum 2 = .ok (.putfield 60, 3) := by decide +kernel
theorem dX5_checksum_5 : decode cX5_checksum 5 = .ok (.ldc2_w 162, 3) := by decide +kernel
theorem dX5_checksum_8 : decode cX5_checksum 8 = .ok (.lstore_n 1, 1) := by decide +kernel
theorem dX5_checksum_9 : decode cX5_checksum 9 = .ok (.iconst 0, 1) := by decide +kernel
theorem dX5_checksum_10 : decode cX5_checksum 10 = .ok (.istore_n 3, 1) := by decide +kernel
theorem dX5_checksum_11 : decode cX5_checksum 11 = .ok (.iload_n 3, 1) := by decide +kernel
theorem dX5_checksum_12 : decode cX5_checksum 12 = .ok (.iconst 3, 1) := by decide +kernel
theorem dX5_checksum_13 : decode cX5_checksum 13 = .ok (.if_icmp .ge 83, 3) := by decide +kernel
theorem dX5_checksum_16 : decode cX5_checksum 16 = .ok (.ldc2_w 164, 3) := by decide +kernel
theorem dX5_checksum_19 : decode cX5_checksum 19 = .ok (.lload_n 1, 1) := by decide +kernel
theorem dX5_checksum_20 : decode cX5_checksum 20 = .ok (.lmul, 1) := by decide +kernel
theorem dX5_checksum_21 : decode cX5_checksum 21 = .ok (.aload_n 0, 1) := by decide +kernel
theorem dX5_checksum_22 : decode cX5_checksum 22 = .ok (.getfield 16, 3) := by decide +kernel
theorem dX5_checksum_25 : decode cX5_checksum 25 = .ok (.iload_n 3, 1) := by decide +kernel
theorem dX5_checksum_26 : decode cX5_checksum 26 = .ok (.iaload, 1) := by decide +kernel
theorem dX5_checksum_27 : decode cX5_checksum 27 = .ok (.i2l, 1) := by decide +kernel
theorem dX5_checksum_28 : decode cX5_checksum 28 = .ok (.ladd, 1) := by decide +kernel
theorem dX5_checksum_29 : decode cX5_checksum 29 = .ok (.lstore_n 1, 1) := by decide +kernel
theorem dX5_checksum_30 : decode cX5_checksum 30 = .ok (.iconst 0, 1) := by decide +kernel
theorem dX5_checksum_31 : decode cX5_checksum 31 = .ok (.istore 4, 2) := by decide +kernel
theorem dX5_checksum_33 : decode cX5_checksum 33 = .ok (.iload 4, 2) := by decide +kernel
theorem dX5_checksum_35 : decode cX5_checksum 35 = .ok (.aload_n 0, 1) := by decide +kernel
theorem dX5_checksum_36 : decode cX5_checksum 36 = .ok (.getfield 16, 3) := by decide +kernel
theorem dX5_checksum_39 : decode cX5_checksum 39 = .ok (.iload_n 3, 1) := by decide +kernel
theorem dX5_checksum_40 : decode cX5_checksum 40 = .ok (.iaload, 1) := by decide +kernel
theorem dX5_checksum_41 : decode cX5_checksum 41 = .ok (.if_icmp .ge 49, 3) := by decide +kernel
theorem dX5_checksum_44 : decode cX5_checksum 44 = .ok (.ldc2_w 164, 3) := by decide +kernel
theorem dX5_checksum_47 : decode cX5_checksum 47 = .ok (.lload_n 1, 1) := by decide +kernel
theorem dX5_checksum_48 : decode cX5_checksum 48 = .ok (.lmul, 1) := by decide +kernel
theorem dX5_checksum_49 : decode cX5_checksum 49 = .ok (.aload_n 0, 1) := by decide +kernel
theorem dX5_checksum_50 : decode cX5_checksum 50 = .ok (.getfield 7, 3) := by decide +kernel
theorem dX5_checksum_53 : decode cX5_checksum 53 = .ok (.bipush 60, 2) := by decide +kernel
theorem dX5_checksum_55 : decode cX5_checksum 55 = .ok (.iload_n 3, 1) := by decide +kernel
theorem dX5_checksum_56 : decode cX5_checksum 56 = .ok (.imul, 1) := by decide +kernel
theorem dX5_checksum_57 : decode cX5_checksum 57 = .ok (.iload 4, 2) := by decide +kernel
theorem dX5_checksum_59 : decode cX5_checksum 59 = .ok (.iadd, 1) := by decide +kernel
theorem dX5_checksum_60 : decode cX5_checksum 60 = .ok (.iaload, 1) := by decide +kernel
theorem dX5_checksum_61 : decode cX5_checksum 61 = .ok (.i2l, 1) := by decide +kernel
theorem dX5_checksum_62 : decode cX5_checksum 62 = .ok (.ladd, 1) := by decide +kernel
theorem dX5_checksum_63 : decode cX5_checksum 63 = .ok (.lstore_n 1, 1) := by decide +kernel
theorem dX5_checksum_64 : decode cX5_checksum 64 = .ok (.ldc2_w 164, 3) := by decide +kernel
theorem dX5_checksum_67 : decode cX5_checksum 67 = .ok (.lload_n 1, 1) := by decide +kernel
theorem dX5_checksum_68 : decode cX5_checksum 68 = .ok (.lmul, 1) := by decide +kernel
theorem dX5_checksum_69 : decode cX5_checksum 69 = .ok (.aload_n 0, 1) := by decide +kernel
theorem dX5_checksum_70 : decode cX5_checksum 70 = .ok (.getfield 13, 3) := by decide +kernel
theorem dX5_checksum_73 : decode cX5_checksum 73 = .ok (.bipush 60, 2) := by decide +kernel
theorem dX5_checksum_75 : decode cX5_checksum 75 = .ok (.iload_n 3, 1) := by decide +kernel
theorem dX5_checksum_76 : decode cX5_checksum 76 = .ok (.imul, 1) := by decide +kernel
theorem dX5_checksum_77 : decode cX5_checksum 77 = .ok (.iload 4, 2) := by decide +kernel
theorem dX5_checksum_79 : decode cX5_checksum 79 = .ok (.iadd, 1) := by decide +kernel
theorem dX5_checksum_80 : decode cX5_checksum 80 = .ok (.iaload, 1) := by decide +kernel
theorem dX5_checksum_81 : decode cX5_checksum 81 = .ok (.i2l, 1) := by decide +kernel
theorem dX5_checksum_82 : decode cX5_checksum 82 = .ok (.ladd, 1) := by decide +kernel
theorem dX5_checksum_83 : decode cX5_checksum 83 = .ok (.lstore_n 1, 1) := by decide +kernel
theorem dX5_checksum_84 : decode cX5_checksum 84 = .ok (.iinc 4 1, 3) := by decide +kernel
theorem dX5_checksum_87 : decode cX5_checksum 87 = .ok (.goto (-54), 3) := by decide +kernel
theorem dX5_checksum_90 : decode cX5_checksum 90 = .ok (.iinc 3 1, 3) := by decide +kernel
theorem dX5_checksum_93 : decode cX5_checksum 93 = .ok (.goto (-82), 3) := by decide +kernel
theorem dX5_checksum_96 : decode cX5_checksum 96 = .ok (.iconst 0, 1) := by decide +kernel
theorem dX5_checksum_97 : decode cX5_checksum 97 = .ok (.istore_n 3, 1) := by decide +kernel
theorem dX5_checksum_98 : decode cX5_checksum 98 = .ok (.iload_n 3, 1) := by decide +kernel
theorem dX5_checksum_99 : decode cX5_checksum 99 = .ok (.iconst 4, 1) := by decide +kernel
theorem dX5_checksum_100 : decode cX5_checksum 100 = .ok (.if_icmp .ge 121, 3) := by decide +kernel
theorem dX5_checksum_103 : decode cX5_checksum 103 = .ok (.ldc2_w 164, 3) := by decide +kernel
theorem dX5_checksum_106 : decode cX5_checksum 106 = .ok (.lload_n 1, 1) := by decide +kernel
theorem dX5_checksum_107 : decode cX5_checksum 107 = .ok (.lmul, 1) := by decide +kernel
theorem dX5_checksum_108 : decode cX5_checksum 108 = .ok (.aload_n 0, 1) := by decide +kernel
theorem dX5_checksum_109 : decode cX5_checksum 109 = .ok (.getfield 19, 3) := by decide +kernel
theorem dX5_checksum_112 : decode cX5_checksum 112 = .ok (.iload_n 3, 1) := by decide +kernel
theorem dX5_checksum_113 : decode cX5_checksum 113 = .ok (.baload, 1) := by decide +kernel
theorem dX5_checksum_114 : decode cX5_checksum 114 = .ok (.ifCond .eq 11, 3) := by decide +kernel
theorem dX5_checksum_117 : decode cX5_checksum 117 = .ok (.aload_n 0, 1) := by decide +kernel
theorem dX5_checksum_118 : decode cX5_checksum 118 = .ok (.iload_n 3, 1) := by decide +kernel
theorem dX5_checksum_119 : decode cX5_checksum 119 = .ok (.invokevirtual 129, 3) := by decide +kernel
theorem dX5_checksum_122 : decode cX5_checksum 122 = .ok (.goto 4, 3) := by decide +kernel
theorem dX5_checksum_125 : decode cX5_checksum 125 = .ok (.iconst (-1), 1) := by decide +kernel
theorem dX5_checksum_126 : decode cX5_checksum 126 = .ok (.i2l, 1) := by decide +kernel
theorem dX5_checksum_127 : decode cX5_checksum 127 = .ok (.ladd, 1) := by decide +kernel
theorem dX5_checksum_128 : decode cX5_checksum 128 = .ok (.lstore_n 1, 1) := by decide +kernel
theorem dX5_checksum_129 : decode cX5_checksum 129 = .ok (.iconst 0, 1) := by decide +kernel
theorem dX5_checksum_130 : decode cX5_checksum 130 = .ok (.istore 4, 2) := by decide +kernel
theorem dX5_checksum_132 : decode cX5_checksum 132 = .ok (.iload 4, 2) := by decide +kernel
theorem dX5_checksum_134 : decode cX5_checksum 134 = .ok (.bipush 60, 2) := by decide +kernel
theorem dX5_checksum_136 : decode cX5_checksum 136 = .ok (.if_icmp .ge 79, 3) := by decide +kernel
theorem dX5_checksum_139 : decode cX5_checksum 139 = .ok (.aload_n 0, 1) := by decide +kernel
theorem dX5_checksum_140 : decode cX5_checksum 140 = .ok (.getfield 19, 3) := by decide +kernel
theorem dX5_checksum_143 : decode cX5_checksum 143 = .ok (.iload_n 3, 1) := by decide +kernel
theorem dX5_checksum_144 : decode cX5_checksum 144 = .ok (.baload, 1) := by decide +kernel
theorem dX5_checksum_145 : decode cX5_checksum 145 = .ok (.ifCond .eq 27, 3) := by decide +kernel
theorem dX5_checksum_148 : decode cX5_checksum 148 = .ok (.iload 4, 2) := by decide +kernel
theorem dX5_checksum_150 : decode cX5_checksum 150 = .ok (.aload_n 0, 1) := by decide +kernel
theorem dX5_checksum_151 : decode cX5_checksum 151 = .ok (.iload_n 3, 1) := by decide +kernel
theorem dX5_checksum_152 : decode cX5_checksum 152 = .ok (.invokevirtual 116, 3) := by decide +kernel
theorem dX5_checksum_155 : decode cX5_checksum 155 = .ok (.if_icmp .lt 17, 3) := by decide +kernel
theorem dX5_checksum_158 : decode cX5_checksum 158 = .ok (.iload 4, 2) := by decide +kernel
theorem dX5_checksum_160 : decode cX5_checksum 160 = .ok (.aload_n 0, 1) := by decide +kernel
theorem dX5_checksum_161 : decode cX5_checksum 161 = .ok (.iload_n 3, 1) := by decide +kernel
theorem dX5_checksum_162 : decode cX5_checksum 162 = .ok (.invokevirtual 123, 3) := by decide +kernel
theorem dX5_checksum_165 : decode cX5_checksum 165 = .ok (.if_icmp .ge 7, 3) := by decide +kernel
theorem dX5_checksum_168 : decode cX5_checksum 168 = .ok (.iconst 1, 1) := by decide +kernel
theorem dX5_checksum_169 : decode cX5_checksum 169 = .ok (.goto 4, 3) := by decide +kernel
theorem dX5_checksum_172 : decode cX5_checksum 172 = .ok (.iconst 0, 1) := by decide +kernel
theorem dX5_checksum_173 : decode cX5_checksum 173 = .ok (.istore 5, 2) := by decide +kernel
theorem dX5_checksum_175 : decode cX5_checksum 175 = .ok (.iload 5, 2) := by decide +kernel
theorem dX5_checksum_177 : decode cX5_checksum 177 = .ok (.ifCond .eq 30, 3) := by decide +kernel
theorem dX5_checksum_180 : decode cX5_checksum 180 = .ok (.ldc2_w 164, 3) := by decide +kernel
theorem dX5_checksum_183 : decode cX5_checksum 183 = .ok (.lload_n 1, 1) := by decide +kernel
theorem dX5_checksum_184 : decode cX5_checksum 184 = .ok (.lmul, 1) := by decide +kernel
theorem dX5_checksum_185 : decode cX5_checksum 185 = .ok (.aload_n 0, 1) := by decide +kernel
theorem dX5_checksum_186 : decode cX5_checksum 186 = .ok (.getfield 7, 3) := by decide +kernel
theorem dX5_checksum_189 : decode cX5_checksum 189 = .ok (.bipush 60, 2) := by decide +kernel
theorem dX5_checksum_191 : decode cX5_checksum 191 = .ok (.aload_n 0, 1) := by decide +kernel
theorem dX5_checksum_192 : decode cX5_checksum 192 = .ok (.getfield 23, 3) := by decide +kernel
theorem dX5_checksum_195 : decode cX5_checksum 195 = .ok (.iload_n 3, 1) := by decide +kernel
theorem dX5_checksum_196 : decode cX5_checksum 196 = .ok (.iaload, 1) := by decide +kernel
theorem dX5_checksum_197 : decode cX5_checksum 197 = .ok (.imul, 1) := by decide +kernel
theorem dX5_checksum_198 : decode cX5_checksum 198 = .ok (.iload 4, 2) := by decide +kernel
theorem dX5_checksum_200 : decode cX5_checksum 200 = .ok (.iadd, 1) := by decide +kernel
theorem dX5_checksum_201 : decode cX5_checksum 201 = .ok (.iaload, 1) := by decide +kernel
theorem dX5_checksum_202 : decode cX5_checksum 202 = .ok (.i2l, 1) := by decide +kernel
theorem dX5_checksum_203 : decode cX5_checksum 203 = .ok (.ladd, 1) := by decide +kernel
theorem dX5_checksum_204 : decode cX5_checksum 204 = .ok (.goto 4, 3) := by decide +kernel
theorem dX5_checksum_207 : decode cX5_checksum 207 = .ok (.lload_n 1, 1) := by decide +kernel
theorem dX5_checksum_208 : decode cX5_checksum 208 = .ok (.lstore_n 1, 1) := by decide +kernel
theorem dX5_checksum_209 : decode cX5_checksum 209 = .ok (.iinc 4 1, 3) := by decide +kernel
theorem dX5_checksum_212 : decode cX5_checksum 212 = .ok (.goto (-80), 3) := by decide +kernel
theorem dX5_checksum_215 : decode cX5_checksum 215 = .ok (.iinc 3 1, 3) := by decide +kernel
theorem dX5_checksum_218 : decode cX5_checksum 218 = .ok (.goto (-120), 3) := by decide +kernel
theorem dX5_checksum_221 : decode cX5_checksum 221 = .ok (.iconst 0, 1) := by decide +kernel
theorem dX5_checksum_222 : decode cX5_checksum 222 = .ok (.istore_n 3, 1) := by decide +kernel
theorem dX5_checksum_223 : decode cX5_checksum 223 = .ok (.iload_n 3, 1) := by decide +kernel
theorem dX5_checksum_224 : decode cX5_checksum 224 = .ok (.iconst 3, 1) := by decide +kernel
theorem dX5_checksum_225 : decode cX5_checksum 225 = .ok (.if_icmp .ge 103, 3) := by decide +kernel
theorem dX5_checksum_228 : decode cX5_checksum 228 = .ok (.ldc2_w 164, 3) := by decide +kernel
theorem dX5_checksum_231 : decode cX5_checksum 231 = .ok (.lload_n 1, 1) := by decide +kernel
theorem dX5_checksum_232 : decode cX5_checksum 232 = .ok (.lmul, 1) := by decide +kernel
theorem dX5_checksum_233 : decode cX5_checksum 233 = .ok (.aload_n 0, 1) := by decide +kernel
theorem dX5_checksum_234 : decode cX5_checksum 234 = .ok (.getfield 51, 3) := by decide +kernel
theorem dX5_checksum_237 : decode cX5_checksum 237 = .ok (.iload_n 3, 1) := by decide +kernel
theorem dX5_checksum_238 : decode cX5_checksum 238 = .ok (.iaload, 1) := by decide +kernel
theorem dX5_checksum_239 : decode cX5_checksum 239 = .ok (.i2l, 1) := by decide +kernel
theorem dX5_checksum_240 : decode cX5_checksum 240 = .ok (.ladd, 1) := by decide +kernel
theorem dX5_checksum_241 : decode cX5_checksum 241 = .ok (.lstore_n 1, 1) := by decide +kernel
theorem dX5_checksum_242 : decode cX5_checksum 242 = .ok (.iconst 0, 1) := by decide +kernel
theorem dX5_checksum_243 : decode cX5_checksum 243 = .ok (.istore 4, 2) := by decide +kernel
theorem dX5_checksum_245 : decode cX5_checksum 245 = .ok (.iload 4, 2) := by decide +kernel
theorem dX5_checksum_247 : decode cX5_checksum 247 = .ok (.aload_n 0, 1) := by decide +kernel
theorem dX5_checksum_248 : decode cX5_checksum 248 = .ok (.getfield 51, 3) := by decide +kernel
theorem dX5_checksum_251 : decode cX5_checksum 251 = .ok (.iload_n 3, 1) := by decide +kernel
theorem dX5_checksum_252 : decode cX5_checksum 252 = .ok (.iaload, 1) := by decide +kernel
theorem dX5_checksum_253 : decode cX5_checksum 253 = .ok (.if_icmp .ge 69, 3) := by decide +kernel
theorem dX5_checksum_256 : decode cX5_checksum 256 = .ok (.ldc2_w 164, 3) := by decide +kernel
theorem dX5_checksum_259 : decode cX5_checksum 259 = .ok (.lload_n 1, 1) := by decide +kernel
theorem dX5_checksum_260 : decode cX5_checksum 260 = .ok (.lmul, 1) := by decide +kernel
theorem dX5_checksum_261 : decode cX5_checksum 261 = .ok (.aload_n 0, 1) := by decide +kernel
theorem dX5_checksum_262 : decode cX5_checksum 262 = .ok (.getfield 41, 3) := by decide +kernel
theorem dX5_checksum_265 : decode cX5_checksum 265 = .ok (.bipush 30, 2) := by decide +kernel
theorem dX5_checksum_267 : decode cX5_checksum 267 = .ok (.iload_n 3, 1) := by decide +kernel
theorem dX5_checksum_268 : decode cX5_checksum 268 = .ok (.imul, 1) := by decide +kernel
theorem dX5_checksum_269 : decode cX5_checksum 269 = .ok (.iload 4, 2) := by decide +kernel
theorem dX5_checksum_271 : decode cX5_checksum 271 = .ok (.iadd, 1) := by decide +kernel
theorem dX5_checksum_272 : decode cX5_checksum 272 = .ok (.caload, 1) := by decide +kernel
theorem dX5_checksum_273 : decode cX5_checksum 273 = .ok (.i2l, 1) := by decide +kernel
theorem dX5_checksum_274 : decode cX5_checksum 274 = .ok (.ladd, 1) := by decide +kernel
theorem dX5_checksum_275 : decode cX5_checksum 275 = .ok (.lstore_n 1, 1) := by decide +kernel
theorem dX5_checksum_276 : decode cX5_checksum 276 = .ok (.ldc2_w 164, 3) := by decide +kernel
theorem dX5_checksum_279 : decode cX5_checksum 279 = .ok (.lload_n 1, 1) := by decide +kernel
theorem dX5_checksum_280 : decode cX5_checksum 280 = .ok (.lmul, 1) := by decide +kernel
theorem dX5_checksum_281 : decode cX5_checksum 281 = .ok (.aload_n 0, 1) := by decide +kernel
theorem dX5_checksum_282 : decode cX5_checksum 282 = .ok (.getfield 45, 3) := by decide +kernel
theorem dX5_checksum_285 : decode cX5_checksum 285 = .ok (.bipush 30, 2) := by decide +kernel
theorem dX5_checksum_287 : decode cX5_checksum 287 = .ok (.iload_n 3, 1) := by decide +kernel
theorem dX5_checksum_288 : decode cX5_checksum 288 = .ok (.imul, 1) := by decide +kernel
theorem dX5_checksum_289 : decode cX5_checksum 289 = .ok (.iload 4, 2) := by decide +kernel
theorem dX5_checksum_291 : decode cX5_checksum 291 = .ok (.iadd, 1) := by decide +kernel
theorem dX5_checksum_292 : decode cX5_checksum 292 = .ok (.iaload, 1) := by decide +kernel
theorem dX5_checksum_293 : decode cX5_checksum 293 = .ok (.i2l, 1) := by decide +kernel
theorem dX5_checksum_294 : decode cX5_checksum 294 = .ok (.ladd, 1) := by decide +kernel
theorem dX5_checksum_295 : decode cX5_checksum 295 = .ok (.lstore_n 1, 1) := by decide +kernel
theorem dX5_checksum_296 : decode cX5_checksum 296 = .ok (.ldc2_w 164, 3) := by decide +kernel
theorem dX5_checksum_299 : decode cX5_checksum 299 = .ok (.lload_n 1, 1) := by decide +kernel
theorem dX5_checksum_300 : decode cX5_checksum 300 = .ok (.lmul, 1) := by decide +kernel
theorem dX5_checksum_301 : decode cX5_checksum 301 = .ok (.aload_n 0, 1) := by decide +kernel
theorem dX5_checksum_302 : decode cX5_checksum 302 = .ok (.getfield 48, 3) := by decide +kernel
theorem dX5_checksum_305 : decode cX5_checksum 305 = .ok (.bipush 30, 2) := by decide +kernel
theorem dX5_checksum_307 : decode cX5_checksum 307 = .ok (.iload_n 3, 1) := by decide +kernel
theorem dX5_checksum_308 : decode cX5_checksum 308 = .ok (.imul, 1) := by decide +kernel
theorem dX5_checksum_309 : decode cX5_checksum 309 = .ok (.iload 4, 2) := by decide +kernel
theorem dX5_checksum_311 : decode cX5_checksum 311 = .ok (.iadd, 1) := by decide +kernel
theorem dX5_checksum_312 : decode cX5_checksum 312 = .ok (.iaload, 1) := by decide +kernel
theorem dX5_checksum_313 : decode cX5_checksum 313 = .ok (.i2l, 1) := by decide +kernel
theorem dX5_checksum_314 : decode cX5_checksum 314 = .ok (.ladd, 1) := by decide +kernel
theorem dX5_checksum_315 : decode cX5_checksum 315 = .ok (.lstore_n 1, 1) := by decide +kernel
theorem dX5_checksum_316 : decode cX5_checksum 316 = .ok (.iinc 4 1, 3) := by decide +kernel
theorem dX5_checksum_319 : decode cX5_checksum 319 = .ok (.goto (-74), 3) := by decide +kernel
theorem dX5_checksum_322 : decode cX5_checksum 322 = .ok (.iinc 3 1, 3) := by decide +kernel
theorem dX5_checksum_325 : decode cX5_checksum 325 = .ok (.goto (-102), 3) := by decide +kernel
theorem dX5_checksum_328 : decode cX5_checksum 328 = .ok (.lload_n 1, 1) := by decide +kernel
theorem dX5_checksum_329 : decode cX5_checksum 329 = .ok (.lreturn, 1) := by decide +kernel
theorem dX5_isSound_0 : decode cX5_isSound 0 = .ok (.aload_n 0, 1) := by decide +kernel
theorem dX5_isSound_1 : decode cX5_isSound 1 = .ok (.iconst 0, 1) := by decide +kernel
theorem dX5_isSound_2 : decode cX5_isSound 2 = .ok (.putfield 60, 3) := by decide +kernel
theorem dX5_isSound_5 : decode cX5_isSound 5 = .ok (.iconst 1, 1) := by decide +kernel
theorem dX5_isSound_6 : decode cX5_isSound 6 = .ok (.ireturn, 1) := by decide +kernel
end
section
theorem dL_put_0 : decode cL_put 0 = .ok (.aload 4, 2) := by decide +kernel
theorem dL_put_2 : decode cL_put 2 = .ok (.iconst 0, 1) := by decide +kernel
theorem dL_put_3 : decode cL_put 3 = .ok (.aload_n 0, 1) := by decide +kernel
theorem dL_put_4 : decode cL_put 4 = .ok (.iload_n 1, 1) := by decide +kernel
theorem dL_put_5 : decode cL_put 5 = .ok (.iload_n 2, 1) := by decide +kernel
theorem dL_put_6 : decode cL_put 6 = .ok (.iload_n 3, 1) := by decide +kernel
theorem dL_put_7 : decode cL_put 7 = .ok (.invokevirtual 7, 3) := by decide +kernel
theorem dL_put_10 : decode cL_put 10 = .ok (.i2l, 1) := by decide +kernel
theorem dL_put_11 : decode cL_put 11 = .ok (.lastore, 1) := by decide +kernel
theorem dL_put_12 : decode cL_put 12 = .ok (.goto 11, 3) := by decide +kernel
theorem dL_put_15 : decode cL_put 15 = .ok (.astore 5, 2) := by decide +kernel
theorem dL_put_17 : decode cL_put 17 = .ok (.iconst 1, 1) := by decide +kernel
theorem dL_put_18 : decode cL_put 18 = .ok (.ireturn, 1) := by decide +kernel
theorem dL_put_19 : decode cL_put 19 = .ok (.astore 5, 2) := by decide +kernel
theorem dL_put_21 : decode cL_put 21 = .ok (.iconst 2, 1) := by decide +kernel
theorem dL_put_22 : decode cL_put 22 = .ok (.ireturn, 1) := by decide +kernel
theorem dL_put_23 : decode cL_put 23 = .ok (.iconst 0, 1) := by decide +kernel
theorem dL_put_24 : decode cL_put 24 = .ok (.ireturn, 1) := by decide +kernel
theorem dL_value_0 : decode cL_value 0 = .ok (.aload_n 3, 1) := by decide +kernel
theorem dL_value_1 : decode cL_value 1 = .ok (.iconst 0, 1) := by decide +kernel
theorem dL_value_2 : decode cL_value 2 = .ok (.aload_n 0, 1) := by decide +kernel
theorem dL_value_3 : decode cL_value 3 = .ok (.iload_n 1, 1) := by decide +kernel
theorem dL_value_4 : decode cL_value 4 = .ok (.iload_n 2, 1) := by decide +kernel
theorem dL_value_5 : decode cL_value 5 = .ok (.invokevirtual 17, 3) := by decide +kernel
theorem dL_value_8 : decode cL_value 8 = .ok (.i2l, 1) := by decide +kernel
theorem dL_value_9 : decode cL_value 9 = .ok (.lastore, 1) := by decide +kernel
theorem dL_value_10 : decode cL_value 10 = .ok (.goto 11, 3) := by decide +kernel
theorem dL_value_13 : decode cL_value 13 = .ok (.astore 4, 2) := by decide +kernel
theorem dL_value_15 : decode cL_value 15 = .ok (.iconst 1, 1) := by decide +kernel
theorem dL_value_16 : decode cL_value 16 = .ok (.ireturn, 1) := by decide +kernel
theorem dL_value_17 : decode cL_value 17 = .ok (.astore 4, 2) := by decide +kernel
theorem dL_value_19 : decode cL_value 19 = .ok (.iconst 2, 1) := by decide +kernel
theorem dL_value_20 : decode cL_value 20 = .ok (.ireturn, 1) := by decide +kernel
theorem dL_value_21 : decode cL_value 21 = .ok (.iconst 0, 1) := by decide +kernel
theorem dL_value_22 : decode cL_value 22 = .ok (.ireturn, 1) := by decide +kernel
theorem dL_remove_0 : decode cL_remove 0 = .ok (.aload_n 3, 1) := by decide +kernel
theorem dL_remove_1 : decode cL_remove 1 = .ok (.iconst 0, 1) := by decide +kernel
theorem dL_remove_2 : decode cL_remove 2 = .ok (.aload_n 0, 1) := by decide +kernel
theorem dL_remove_3 : decode cL_remove 3 = .ok (.iload_n 1, 1) := by decide +kernel
theorem dL_remove_4 : decode cL_remove 4 = .ok (.iload_n 2, 1) := by decide +kernel
theorem dL_remove_5 : decode cL_remove 5 = .ok (.invokevirtual 23, 3) := by decide +kernel
theorem dL_remove_8 : decode cL_remove 8 = .ok (.i2l, 1) := by decide +kernel
theorem dL_remove_9 : decode cL_remove 9 = .ok (.lastore, 1) := by decide +kernel
theorem dL_remove_10 : decode cL_remove 10 = .ok (.goto 7, 3) := by decide +kernel
theorem dL_remove_13 : decode cL_remove 13 = .ok (.astore 4, 2) := by decide +kernel
theorem dL_remove_15 : decode cL_remove 15 = .ok (.iconst 1, 1) := by decide +kernel
theorem dL_remove_16 : decode cL_remove 16 = .ok (.ireturn, 1) := by decide +kernel
theorem dL_remove_17 : decode cL_remove 17 = .ok (.iconst 0, 1) := by decide +kernel
theorem dL_remove_18 : decode cL_remove 18 = .ok (.ireturn, 1) := by decide +kernel
theorem dL_near_0 : decode cL_near 0 = .ok (.aload 4, 2) := by decide +kernel
theorem dL_near_2 : decode cL_near 2 = .ok (.iconst 0, 1) := by decide +kernel
theorem dL_near_3 : decode cL_near 3 = .ok (.aload_n 0, 1) := by decide +kernel
theorem dL_near_4 : decode cL_near 4 = .ok (.iload_n 1, 1) := by decide +kernel
theorem dL_near_5 : decode cL_near 5 = .ok (.iload_n 2, 1) := by decide +kernel
theorem dL_near_6 : decode cL_near 6 = .ok (.iload_n 3, 1) := by decide +kernel
theorem dL_near_7 : decode cL_near 7 = .ok (.invokevirtual 26, 3) := by decide +kernel
theorem dL_near_10 : decode cL_near 10 = .ok (.i2l, 1) := by decide +kernel
theorem dL_near_11 : decode cL_near 11 = .ok (.lastore, 1) := by decide +kernel
theorem dL_near_12 : decode cL_near 12 = .ok (.goto 15, 3) := by decide +kernel
theorem dL_near_15 : decode cL_near 15 = .ok (.astore 5, 2) := by decide +kernel
theorem dL_near_17 : decode cL_near 17 = .ok (.iconst 1, 1) := by decide +kernel
theorem dL_near_18 : decode cL_near 18 = .ok (.ireturn, 1) := by decide +kernel
theorem dL_near_19 : decode cL_near 19 = .ok (.astore 5, 2) := by decide +kernel
theorem dL_near_21 : decode cL_near 21 = .ok (.iconst 2, 1) := by decide +kernel
theorem dL_near_22 : decode cL_near 22 = .ok (.ireturn, 1) := by decide +kernel
theorem dL_near_23 : decode cL_near 23 = .ok (.astore 5, 2) := by decide +kernel
theorem dL_near_25 : decode cL_near 25 = .ok (.iconst 3, 1) := by decide +kernel
theorem dL_near_26 : decode cL_near 26 = .ok (.ireturn, 1) := by decide +kernel
theorem dL_near_27 : decode cL_near 27 = .ok (.iconst 0, 1) := by decide +kernel
theorem dL_near_28 : decode cL_near 28 = .ok (.ireturn, 1) := by decide +kernel
theorem dL_end_0 : decode cL_end 0 = .ok (.aload_n 3, 1) := by decide +kernel
theorem dL_end_1 : decode cL_end 1 = .ok (.iconst 0, 1) := by decide +kernel
theorem dL_end_2 : decode cL_end 2 = .ok (.aload_n 0, 1) := by decide +kernel
theorem dL_end_3 : decode cL_end 3 = .ok (.iload_n 1, 1) := by decide +kernel
theorem dL_end_4 : decode cL_end 4 = .ok (.iload_n 2, 1) := by decide +kernel
theorem dL_end_5 : decode cL_end 5 = .ok (.invokevirtual 32, 3) := by decide +kernel
theorem dL_end_8 : decode cL_end 8 = .ok (.i2l, 1) := by decide +kernel
theorem dL_end_9 : decode cL_end 9 = .ok (.lastore, 1) := by decide +kernel
theorem dL_end_10 : decode cL_end 10 = .ok (.goto 11, 3) := by decide +kernel
theorem dL_end_13 : decode cL_end 13 = .ok (.astore 4, 2) := by decide +kernel
theorem dL_end_15 : decode cL_end 15 = .ok (.iconst 1, 1) := by decide +kernel
theorem dL_end_16 : decode cL_end 16 = .ok (.ireturn, 1) := by decide +kernel
theorem dL_end_17 : decode cL_end 17 = .ok (.astore 4, 2) := by decide +kernel
theorem dL_end_19 : decode cL_end 19 = .ok (.iconst 2, 1) := by decide +kernel
theorem dL_end_20 : decode cL_end 20 = .ok (.ireturn, 1) := by decide +kernel
theorem dL_end_21 : decode cL_end 21 = .ok (.iconst 0, 1) := by decide +kernel
theorem dL_end_22 : decode cL_end 22 = .ok (.ireturn, 1) := by decide +kernel
theorem dL_poll_0 : decode cL_poll 0 = .ok (.aload_n 3, 1) := by decide +kernel
theorem dL_poll_1 : decode cL_poll 1 = .ok (.iconst 0, 1) := by decide +kernel
theorem dL_poll_2 : decode cL_poll 2 = .ok (.aload_n 0, 1) := by decide +kernel
theorem dL_poll_3 : decode cL_poll 3 = .ok (.iload_n 1, 1) := by decide +kernel
theorem dL_poll_4 : decode cL_poll 4 = .ok (.iload_n 2, 1) := by decide +kernel
theorem dL_poll_5 : decode cL_poll 5 = .ok (.invokevirtual 36, 3) := by decide +kernel
theorem dL_poll_8 : decode cL_poll 8 = .ok (.i2l, 1) := by decide +kernel
theorem dL_poll_9 : decode cL_poll 9 = .ok (.lastore, 1) := by decide +kernel
theorem dL_poll_10 : decode cL_poll 10 = .ok (.goto 11, 3) := by decide +kernel
theorem dL_poll_13 : decode cL_poll 13 = .ok (.astore 4, 2) := by decide +kernel
theorem dL_poll_15 : decode cL_poll 15 = .ok (.iconst 1, 1) := by decide +kernel
theorem dL_poll_16 : decode cL_poll 16 = .ok (.ireturn, 1) := by decide +kernel
theorem dL_poll_17 : decode cL_poll 17 = .ok (.astore 4, 2) := by decide +kernel
theorem dL_poll_19 : decode cL_poll 19 = .ok (.iconst 2, 1) := by decide +kernel
theorem dL_poll_20 : decode cL_poll 20 = .ok (.ireturn, 1) := by decide +kernel
theorem dL_poll_21 : decode cL_poll 21 = .ok (.iconst 0, 1) := by decide +kernel
theorem dL_poll_22 : decode cL_poll 22 = .ok (.ireturn, 1) := by decide +kernel
theorem dL_polled_0 : decode cL_polled 0 = .ok (.aload_n 1, 1) := by decide +kernel
theorem dL_polled_1 : decode cL_polled 1 = .ok (.iconst 0, 1) := by decide +kernel
theorem dL_polled_2 : decode cL_polled 2 = .ok (.aload_n 0, 1) := by decide +kernel
theorem dL_polled_3 : decode cL_polled 3 = .ok (.invokevirtual 39, 3) := by decide +kernel
theorem dL_polled_6 : decode cL_polled 6 = .ok (.i2l, 1) := by decide +kernel
theorem dL_polled_7 : decode cL_polled 7 = .ok (.lastore, 1) := by decide +kernel
theorem dL_polled_8 : decode cL_polled 8 = .ok (.goto 6, 3) := by decide +kernel
theorem dL_polled_11 : decode cL_polled 11 = .ok (.astore_n 2, 1) := by decide +kernel
theorem dL_polled_12 : decode cL_polled 12 = .ok (.iconst 1, 1) := by decide +kernel
theorem dL_polled_13 : decode cL_polled 13 = .ok (.ireturn, 1) := by decide +kernel
theorem dL_polled_14 : decode cL_polled 14 = .ok (.iconst 0, 1) := by decide +kernel
theorem dL_polled_15 : decode cL_polled 15 = .ok (.ireturn, 1) := by decide +kernel
theorem dL_drain_0 : decode cL_drain 0 = .ok (.aload_n 3, 1) := by decide +kernel
theorem dL_drain_1 : decode cL_drain 1 = .ok (.iconst 0, 1) := by decide +kernel
theorem dL_drain_2 : decode cL_drain 2 = .ok (.aload_n 0, 1) := by decide +kernel
theorem dL_drain_3 : decode cL_drain 3 = .ok (.iload_n 1, 1) := by decide +kernel
theorem dL_drain_4 : decode cL_drain 4 = .ok (.iload_n 2, 1) := by decide +kernel
theorem dL_drain_5 : decode cL_drain 5 = .ok (.invokevirtual 43, 3) := by decide +kernel
theorem dL_drain_8 : decode cL_drain 8 = .ok (.i2l, 1) := by decide +kernel
theorem dL_drain_9 : decode cL_drain 9 = .ok (.lastore, 1) := by decide +kernel
theorem dL_drain_10 : decode cL_drain 10 = .ok (.goto 7, 3) := by decide +kernel
theorem dL_drain_13 : decode cL_drain 13 = .ok (.astore 4, 2) := by decide +kernel
theorem dL_drain_15 : decode cL_drain 15 = .ok (.iconst 1, 1) := by decide +kernel
theorem dL_drain_16 : decode cL_drain 16 = .ok (.ireturn, 1) := by decide +kernel
theorem dL_drain_17 : decode cL_drain 17 = .ok (.iconst 0, 1) := by decide +kernel
theorem dL_drain_18 : decode cL_drain 18 = .ok (.ireturn, 1) := by decide +kernel
theorem dL_drained_0 : decode cL_drained 0 = .ok (.aload_n 2, 1) := by decide +kernel
theorem dL_drained_1 : decode cL_drained 1 = .ok (.iconst 0, 1) := by decide +kernel
theorem dL_drained_2 : decode cL_drained 2 = .ok (.aload_n 0, 1) := by decide +kernel
theorem dL_drained_3 : decode cL_drained 3 = .ok (.iload_n 1, 1) := by decide +kernel
theorem dL_drained_4 : decode cL_drained 4 = .ok (.invokevirtual 46, 3) := by decide +kernel
theorem dL_drained_7 : decode cL_drained 7 = .ok (.i2l, 1) := by decide +kernel
theorem dL_drained_8 : decode cL_drained 8 = .ok (.lastore, 1) := by decide +kernel
theorem dL_drained_9 : decode cL_drained 9 = .ok (.goto 6, 3) := by decide +kernel
theorem dL_drained_12 : decode cL_drained 12 = .ok (.astore_n 3, 1) := by decide +kernel
theorem dL_drained_13 : decode cL_drained 13 = .ok (.iconst 1, 1) := by decide +kernel
theorem dL_drained_14 : decode cL_drained 14 = .ok (.ireturn, 1) := by decide +kernel
theorem dL_drained_15 : decode cL_drained 15 = .ok (.iconst 0, 1) := by decide +kernel
theorem dL_drained_16 : decode cL_drained 16 = .ok (.ireturn, 1) := by decide +kernel
theorem dL_size_0 : decode cL_size 0 = .ok (.aload_n 2, 1) := by decide +kernel
theorem dL_size_1 : decode cL_size 1 = .ok (.iconst 0, 1) := by decide +kernel
theorem dL_size_2 : decode cL_size 2 = .ok (.aload_n 0, 1) := by decide +kernel
theorem dL_size_3 : decode cL_size 3 = .ok (.iload_n 1, 1) := by decide +kernel
theorem dL_size_4 : decode cL_size 4 = .ok (.invokevirtual 50, 3) := by decide +kernel
theorem dL_size_7 : decode cL_size 7 = .ok (.i2l, 1) := by decide +kernel
theorem dL_size_8 : decode cL_size 8 = .ok (.lastore, 1) := by decide +kernel
theorem dL_size_9 : decode cL_size 9 = .ok (.goto 6, 3) := by decide +kernel
theorem dL_size_12 : decode cL_size 12 = .ok (.astore_n 3, 1) := by decide +kernel
theorem dL_size_13 : decode cL_size 13 = .ok (.iconst 1, 1) := by decide +kernel
theorem dL_size_14 : decode cL_size 14 = .ok (.ireturn, 1) := by decide +kernel
theorem dL_size_15 : decode cL_size 15 = .ok (.iconst 0, 1) := by decide +kernel
theorem dL_size_16 : decode cL_size 16 = .ok (.ireturn, 1) := by decide +kernel
theorem dL_keyAt_0 : decode cL_keyAt 0 = .ok (.aload 4, 2) := by decide +kernel
theorem dL_keyAt_2 : decode cL_keyAt 2 = .ok (.iconst 0, 1) := by decide +kernel
theorem dL_keyAt_3 : decode cL_keyAt 3 = .ok (.aload_n 0, 1) := by decide +kernel
theorem dL_keyAt_4 : decode cL_keyAt 4 = .ok (.iload_n 1, 1) := by decide +kernel
theorem dL_keyAt_5 : decode cL_keyAt 5 = .ok (.iload_n 2, 1) := by decide +kernel
theorem dL_keyAt_6 : decode cL_keyAt 6 = .ok (.iload_n 3, 1) := by decide +kernel
theorem dL_keyAt_7 : decode cL_keyAt 7 = .ok (.invokevirtual 53, 3) := by decide +kernel
theorem dL_keyAt_10 : decode cL_keyAt 10 = .ok (.i2l, 1) := by decide +kernel
theorem dL_keyAt_11 : decode cL_keyAt 11 = .ok (.lastore, 1) := by decide +kernel
theorem dL_keyAt_12 : decode cL_keyAt 12 = .ok (.goto 7, 3) := by decide +kernel
theorem dL_keyAt_15 : decode cL_keyAt 15 = .ok (.astore 5, 2) := by decide +kernel
theorem dL_keyAt_17 : decode cL_keyAt 17 = .ok (.iconst 1, 1) := by decide +kernel
theorem dL_keyAt_18 : decode cL_keyAt 18 = .ok (.ireturn, 1) := by decide +kernel
theorem dL_keyAt_19 : decode cL_keyAt 19 = .ok (.iconst 0, 1) := by decide +kernel
theorem dL_keyAt_20 : decode cL_keyAt 20 = .ok (.ireturn, 1) := by decide +kernel
theorem dL_mark_0 : decode cL_mark 0 = .ok (.aload_n 2, 1) := by decide +kernel
theorem dL_mark_1 : decode cL_mark 1 = .ok (.iconst 0, 1) := by decide +kernel
theorem dL_mark_2 : decode cL_mark 2 = .ok (.aload_n 0, 1) := by decide +kernel
theorem dL_mark_3 : decode cL_mark 3 = .ok (.iload_n 1, 1) := by decide +kernel
theorem dL_mark_4 : decode cL_mark 4 = .ok (.invokevirtual 57, 3) := by decide +kernel
theorem dL_mark_7 : decode cL_mark 7 = .ok (.i2l, 1) := by decide +kernel
theorem dL_mark_8 : decode cL_mark 8 = .ok (.lastore, 1) := by decide +kernel
theorem dL_mark_9 : decode cL_mark 9 = .ok (.goto 6, 3) := by decide +kernel
theorem dL_mark_12 : decode cL_mark 12 = .ok (.astore_n 3, 1) := by decide +kernel
theorem dL_mark_13 : decode cL_mark 13 = .ok (.iconst 1, 1) := by decide +kernel
theorem dL_mark_14 : decode cL_mark 14 = .ok (.ireturn, 1) := by decide +kernel
theorem dL_mark_15 : decode cL_mark 15 = .ok (.iconst 0, 1) := by decide +kernel
theorem dL_mark_16 : decode cL_mark 16 = .ok (.ireturn, 1) := by decide +kernel
theorem dL_isLike_0 : decode cL_isLike 0 = .ok (.aload_n 3, 1) := by decide +kernel
theorem dL_isLike_1 : decode cL_isLike 1 = .ok (.iconst 0, 1) := by decide +kernel
theorem dL_isLike_2 : decode cL_isLike 2 = .ok (.aload_n 0, 1) := by decide +kernel
theorem dL_isLike_3 : decode cL_isLike 3 = .ok (.iload_n 1, 1) := by decide +kernel
theorem dL_isLike_4 : decode cL_isLike 4 = .ok (.iload_n 2, 1) := by decide +kernel
theorem dL_isLike_5 : decode cL_isLike 5 = .ok (.invokevirtual 60, 3) := by decide +kernel
theorem dL_isLike_8 : decode cL_isLike 8 = .ok (.ifCond .eq 7, 3) := by decide +kernel
theorem dL_isLike_11 : decode cL_isLike 11 = .ok (.lconst 1, 1) := by decide +kernel
theorem dL_isLike_12 : decode cL_isLike 12 = .ok (.goto 4, 3) := by decide +kernel
theorem dL_isLike_15 : decode cL_isLike 15 = .ok (.lconst 0, 1) := by decide +kernel
theorem dL_isLike_16 : decode cL_isLike 16 = .ok (.lastore, 1) := by decide +kernel
theorem dL_isLike_17 : decode cL_isLike 17 = .ok (.goto 7, 3) := by decide +kernel
theorem dL_isLike_20 : decode cL_isLike 20 = .ok (.astore 4, 2) := by decide +kernel
theorem dL_isLike_22 : decode cL_isLike 22 = .ok (.iconst 1, 1) := by decide +kernel
theorem dL_isLike_23 : decode cL_isLike 23 = .ok (.ireturn, 1) := by decide +kernel
theorem dL_isLike_24 : decode cL_isLike 24 = .ok (.iconst 0, 1) := by decide +kernel
theorem dL_isLike_25 : decode cL_isLike 25 = .ok (.ireturn, 1) := by decide +kernel
theorem dL_open_0 : decode cL_open 0 = .ok (.aload 7, 2) := by decide +kernel
theorem dL_open_2 : decode cL_open 2 = .ok (.iconst 0, 1) := by decide +kernel
theorem dL_open_3 : decode cL_open 3 = .ok (.aload_n 0, 1) := by decide +kernel
theorem dL_open_4 : decode cL_open 4 = .ok (.iload_n 1, 1) := by decide +kernel
theorem dL_open_5 : decode cL_open 5 = .ok (.iload_n 2, 1) := by decide +kernel
theorem dL_open_6 : decode cL_open 6 = .ok (.iload_n 3, 1) := by decide +kernel
theorem dL_open_7 : decode cL_open 7 = .ok (.iload 4, 2) := by decide +kernel
theorem dL_open_9 : decode cL_open 9 = .ok (.iload 5, 2) := by decide +kernel
theorem dL_open_11 : decode cL_open 11 = .ok (.iload 6, 2) := by decide +kernel
theorem dL_open_13 : decode cL_open 13 = .ok (.invokevirtual 64, 3) := by decide +kernel
theorem dL_open_16 : decode cL_open 16 = .ok (.i2l, 1) := by decide +kernel
theorem dL_open_17 : decode cL_open 17 = .ok (.lastore, 1) := by decide +kernel
theorem dL_open_18 : decode cL_open 18 = .ok (.goto 11, 3) := by decide +kernel
theorem dL_open_21 : decode cL_open 21 = .ok (.astore 8, 2) := by decide +kernel
theorem dL_open_23 : decode cL_open 23 = .ok (.iconst 1, 1) := by decide +kernel
theorem dL_open_24 : decode cL_open 24 = .ok (.ireturn, 1) := by decide +kernel
theorem dL_open_25 : decode cL_open 25 = .ok (.astore 8, 2) := by decide +kernel
theorem dL_open_27 : decode cL_open 27 = .ok (.iconst 2, 1) := by decide +kernel
theorem dL_open_28 : decode cL_open 28 = .ok (.ireturn, 1) := by decide +kernel
theorem dL_open_29 : decode cL_open 29 = .ok (.iconst 0, 1) := by decide +kernel
theorem dL_open_30 : decode cL_open 30 = .ok (.ireturn, 1) := by decide +kernel
theorem dL_cut_0 : decode cL_cut 0 = .ok (.aload 6, 2) := by decide +kernel
theorem dL_cut_2 : decode cL_cut 2 = .ok (.iconst 0, 1) := by decide +kernel
theorem dL_cut_3 : decode cL_cut 3 = .ok (.aload_n 0, 1) := by decide +kernel
theorem dL_cut_4 : decode cL_cut 4 = .ok (.iload_n 1, 1) := by decide +kernel
theorem dL_cut_5 : decode cL_cut 5 = .ok (.iload_n 2, 1) := by decide +kernel
theorem dL_cut_6 : decode cL_cut 6 = .ok (.iload_n 3, 1) := by decide +kernel
theorem dL_cut_7 : decode cL_cut 7 = .ok (.iload 4, 2) := by decide +kernel
theorem dL_cut_9 : decode cL_cut 9 = .ok (.iload 5, 2) := by decide +kernel
theorem dL_cut_11 : decode cL_cut 11 = .ok (.invokevirtual 68, 3) := by decide +kernel
theorem dL_cut_14 : decode cL_cut 14 = .ok (.i2l, 1) := by decide +kernel
theorem dL_cut_15 : decode cL_cut 15 = .ok (.lastore, 1) := by decide +kernel
theorem dL_cut_16 : decode cL_cut 16 = .ok (.goto 19, 3) := by decide +kernel
theorem dL_cut_19 : decode cL_cut 19 = .ok (.astore 7, 2) := by decide +kernel
theorem dL_cut_21 : decode cL_cut 21 = .ok (.iconst 1, 1) := by decide +kernel
theorem dL_cut_22 : decode cL_cut 22 = .ok (.ireturn, 1) := by decide +kernel
theorem dL_cut_23 : decode cL_cut 23 = .ok (.astore 7, 2) := by decide +kernel
theorem dL_cut_25 : decode cL_cut 25 = .ok (.iconst 2, 1) := by decide +kernel
theorem dL_cut_26 : decode cL_cut 26 = .ok (.ireturn, 1) := by decide +kernel
theorem dL_cut_27 : decode cL_cut 27 = .ok (.astore 7, 2) := by decide +kernel
theorem dL_cut_29 : decode cL_cut 29 = .ok (.iconst 3, 1) := by decide +kernel
theorem dL_cut_30 : decode cL_cut 30 = .ok (.ireturn, 1) := by decide +kernel
theorem dL_cut_31 : decode cL_cut 31 = .ok (.astore 7, 2) := by decide +kernel
theorem dL_cut_33 : decode cL_cut 33 = .ok (.iconst 4, 1) := by decide +kernel
theorem dL_cut_34 : decode cL_cut 34 = .ok (.ireturn, 1) := by decide +kernel
theorem dL_cut_35 : decode cL_cut 35 = .ok (.iconst 0, 1) := by decide +kernel
theorem dL_cut_36 : decode cL_cut 36 = .ok (.ireturn, 1) := by decide +kernel
theorem dL_viewPut_0 : decode cL_viewPut 0 = .ok (.aload 4, 2) := by decide +kernel
theorem dL_viewPut_2 : decode cL_viewPut 2 = .ok (.iconst 0, 1) := by decide +kernel
theorem dL_viewPut_3 : decode cL_viewPut 3 = .ok (.aload_n 0, 1) := by decide +kernel
theorem dL_viewPut_4 : decode cL_viewPut 4 = .ok (.iload_n 1, 1) := by decide +kernel
theorem dL_viewPut_5 : decode cL_viewPut 5 = .ok (.iload_n 2, 1) := by decide +kernel
theorem dL_viewPut_6 : decode cL_viewPut 6 = .ok (.iload_n 3, 1) := by decide +kernel
theorem dL_viewPut_7 : decode cL_viewPut 7 = .ok (.invokevirtual 72, 3) := by decide +kernel
theorem dL_viewPut_10 : decode cL_viewPut 10 = .ok (.i2l, 1) := by decide +kernel
theorem dL_viewPut_11 : decode cL_viewPut 11 = .ok (.lastore, 1) := by decide +kernel
theorem dL_viewPut_12 : decode cL_viewPut 12 = .ok (.goto 19, 3) := by decide +kernel
theorem dL_viewPut_15 : decode cL_viewPut 15 = .ok (.astore 5, 2) := by decide +kernel
theorem dL_viewPut_17 : decode cL_viewPut 17 = .ok (.iconst 1, 1) := by decide +kernel
theorem dL_viewPut_18 : decode cL_viewPut 18 = .ok (.ireturn, 1) := by decide +kernel
theorem dL_viewPut_19 : decode cL_viewPut 19 = .ok (.astore 5, 2) := by decide +kernel
theorem dL_viewPut_21 : decode cL_viewPut 21 = .ok (.iconst 2, 1) := by decide +kernel
theorem dL_viewPut_22 : decode cL_viewPut 22 = .ok (.ireturn, 1) := by decide +kernel
theorem dL_viewPut_23 : decode cL_viewPut 23 = .ok (.astore 5, 2) := by decide +kernel
theorem dL_viewPut_25 : decode cL_viewPut 25 = .ok (.iconst 3, 1) := by decide +kernel
theorem dL_viewPut_26 : decode cL_viewPut 26 = .ok (.ireturn, 1) := by decide +kernel
theorem dL_viewPut_27 : decode cL_viewPut 27 = .ok (.astore 5, 2) := by decide +kernel
theorem dL_viewPut_29 : decode cL_viewPut 29 = .ok (.iconst 4, 1) := by decide +kernel
theorem dL_viewPut_30 : decode cL_viewPut 30 = .ok (.ireturn, 1) := by decide +kernel
theorem dL_viewPut_31 : decode cL_viewPut 31 = .ok (.iconst 0, 1) := by decide +kernel
theorem dL_viewPut_32 : decode cL_viewPut 32 = .ok (.ireturn, 1) := by decide +kernel
theorem dL_viewRemove_0 : decode cL_viewRemove 0 = .ok (.aload_n 3, 1) := by decide +kernel
theorem dL_viewRemove_1 : decode cL_viewRemove 1 = .ok (.iconst 0, 1) := by decide +kernel
theorem dL_viewRemove_2 : decode cL_viewRemove 2 = .ok (.aload_n 0, 1) := by decide +kernel
theorem dL_viewRemove_3 : decode cL_viewRemove 3 = .ok (.iload_n 1, 1) := by decide +kernel
theorem dL_viewRemove_4 : decode cL_viewRemove 4 = .ok (.iload_n 2, 1) := by decide +kernel
theorem dL_viewRemove_5 : decode cL_viewRemove 5 = .ok (.invokevirtual 75, 3) := by decide +kernel
theorem dL_viewRemove_8 : decode cL_viewRemove 8 = .ok (.ifCond .eq 7, 3) := by decide +kernel
theorem dL_viewRemove_11 : decode cL_viewRemove 11 = .ok (.lconst 1, 1) := by decide +kernel
theorem dL_viewRemove_12 : decode cL_viewRemove 12 = .ok (.goto 4, 3) := by decide +kernel
theorem dL_viewRemove_15 : decode cL_viewRemove 15 = .ok (.lconst 0, 1) := by decide +kernel
theorem dL_viewRemove_16 : decode cL_viewRemove 16 = .ok (.lastore, 1) := by decide +kernel
theorem dL_viewRemove_17 : decode cL_viewRemove 17 = .ok (.goto 11, 3) := by decide +kernel
theorem dL_viewRemove_20 : decode cL_viewRemove 20 = .ok (.astore 4, 2) := by decide +kernel
theorem dL_viewRemove_22 : decode cL_viewRemove 22 = .ok (.iconst 1, 1) := by decide +kernel
theorem dL_viewRemove_23 : decode cL_viewRemove 23 = .ok (.ireturn, 1) := by decide +kernel
theorem dL_viewRemove_24 : decode cL_viewRemove 24 = .ok (.astore 4, 2) := by decide +kernel
theorem dL_viewRemove_26 : decode cL_viewRemove 26 = .ok (.iconst 2, 1) := by decide +kernel
theorem dL_viewRemove_27 : decode cL_viewRemove 27 = .ok (.ireturn, 1) := by decide +kernel
theorem dL_viewRemove_28 : decode cL_viewRemove 28 = .ok (.iconst 0, 1) := by decide +kernel
theorem dL_viewRemove_29 : decode cL_viewRemove 29 = .ok (.ireturn, 1) := by decide +kernel
theorem dL_viewNear_0 : decode cL_viewNear 0 = .ok (.aload 4, 2) := by decide +kernel
theorem dL_viewNear_2 : decode cL_viewNear 2 = .ok (.iconst 0, 1) := by decide +kernel
theorem dL_viewNear_3 : decode cL_viewNear 3 = .ok (.aload_n 0, 1) := by decide +kernel
theorem dL_viewNear_4 : decode cL_viewNear 4 = .ok (.iload_n 1, 1) := by decide +kernel
theorem dL_viewNear_5 : decode cL_viewNear 5 = .ok (.iload_n 2, 1) := by decide +kernel
theorem dL_viewNear_6 : decode cL_viewNear 6 = .ok (.iload_n 3, 1) := by decide +kernel
theorem dL_viewNear_7 : decode cL_viewNear 7 = .ok (.invokevirtual 78, 3) := by decide +kernel
theorem dL_viewNear_10 : decode cL_viewNear 10 = .ok (.i2l, 1) := by decide +kernel
theorem dL_viewNear_11 : decode cL_viewNear 11 = .ok (.lastore, 1) := by decide +kernel
theorem dL_viewNear_12 : decode cL_viewNear 12 = .ok (.goto 15, 3) := by decide +kernel
theorem dL_viewNear_15 : decode cL_viewNear 15 = .ok (.astore 5, 2) := by decide +kernel
theorem dL_viewNear_17 : decode cL_viewNear 17 = .ok (.iconst 1, 1) := by decide +kernel
theorem dL_viewNear_18 : decode cL_viewNear 18 = .ok (.ireturn, 1) := by decide +kernel
theorem dL_viewNear_19 : decode cL_viewNear 19 = .ok (.astore 5, 2) := by decide +kernel
theorem dL_viewNear_21 : decode cL_viewNear 21 = .ok (.iconst 2, 1) := by decide +kernel
theorem dL_viewNear_22 : decode cL_viewNear 22 = .ok (.ireturn, 1) := by decide +kernel
theorem dL_viewNear_23 : decode cL_viewNear 23 = .ok (.astore 5, 2) := by decide +kernel
theorem dL_viewNear_25 : decode cL_viewNear 25 = .ok (.iconst 3, 1) := by decide +kernel
theorem dL_viewNear_26 : decode cL_viewNear 26 = .ok (.ireturn, 1) := by decide +kernel
theorem dL_viewNear_27 : decode cL_viewNear 27 = .ok (.iconst 0, 1) := by decide +kernel
theorem dL_viewNear_28 : decode cL_viewNear 28 = .ok (.ireturn, 1) := by decide +kernel
theorem dL_viewEnd_0 : decode cL_viewEnd 0 = .ok (.aload_n 3, 1) := by decide +kernel
theorem dL_viewEnd_1 : decode cL_viewEnd 1 = .ok (.iconst 0, 1) := by decide +kernel
theorem dL_viewEnd_2 : decode cL_viewEnd 2 = .ok (.aload_n 0, 1) := by decide +kernel
theorem dL_viewEnd_3 : decode cL_viewEnd 3 = .ok (.iload_n 1, 1) := by decide +kernel
theorem dL_viewEnd_4 : decode cL_viewEnd 4 = .ok (.iload_n 2, 1) := by decide +kernel
theorem dL_viewEnd_5 : decode cL_viewEnd 5 = .ok (.invokevirtual 81, 3) := by decide +kernel
theorem dL_viewEnd_8 : decode cL_viewEnd 8 = .ok (.i2l, 1) := by decide +kernel
theorem dL_viewEnd_9 : decode cL_viewEnd 9 = .ok (.lastore, 1) := by decide +kernel
theorem dL_viewEnd_10 : decode cL_viewEnd 10 = .ok (.goto 11, 3) := by decide +kernel
theorem dL_viewEnd_13 : decode cL_viewEnd 13 = .ok (.astore 4, 2) := by decide +kernel
theorem dL_viewEnd_15 : decode cL_viewEnd 15 = .ok (.iconst 1, 1) := by decide +kernel
theorem dL_viewEnd_16 : decode cL_viewEnd 16 = .ok (.ireturn, 1) := by decide +kernel
theorem dL_viewEnd_17 : decode cL_viewEnd 17 = .ok (.astore 4, 2) := by decide +kernel
theorem dL_viewEnd_19 : decode cL_viewEnd 19 = .ok (.iconst 2, 1) := by decide +kernel
theorem dL_viewEnd_20 : decode cL_viewEnd 20 = .ok (.ireturn, 1) := by decide +kernel
theorem dL_viewEnd_21 : decode cL_viewEnd 21 = .ok (.iconst 0, 1) := by decide +kernel
theorem dL_viewEnd_22 : decode cL_viewEnd 22 = .ok (.ireturn, 1) := by decide +kernel
theorem dL_viewPoll_0 : decode cL_viewPoll 0 = .ok (.aload_n 3, 1) := by decide +kernel
theorem dL_viewPoll_1 : decode cL_viewPoll 1 = .ok (.iconst 0, 1) := by decide +kernel
theorem dL_viewPoll_2 : decode cL_viewPoll 2 = .ok (.aload_n 0, 1) := by decide +kernel
theorem dL_viewPoll_3 : decode cL_viewPoll 3 = .ok (.iload_n 1, 1) := by decide +kernel
theorem dL_viewPoll_4 : decode cL_viewPoll 4 = .ok (.iload_n 2, 1) := by decide +kernel
theorem dL_viewPoll_5 : decode cL_viewPoll 5 = .ok (.invokevirtual 84, 3) := by decide +kernel
theorem dL_viewPoll_8 : decode cL_viewPoll 8 = .ok (.i2l, 1) := by decide +kernel
theorem dL_viewPoll_9 : decode cL_viewPoll 9 = .ok (.lastore, 1) := by decide +kernel
theorem dL_viewPoll_10 : decode cL_viewPoll 10 = .ok (.goto 11, 3) := by decide +kernel
theorem dL_viewPoll_13 : decode cL_viewPoll 13 = .ok (.astore 4, 2) := by decide +kernel
theorem dL_viewPoll_15 : decode cL_viewPoll 15 = .ok (.iconst 1, 1) := by decide +kernel
theorem dL_viewPoll_16 : decode cL_viewPoll 16 = .ok (.ireturn, 1) := by decide +kernel
theorem dL_viewPoll_17 : decode cL_viewPoll 17 = .ok (.astore 4, 2) := by decide +kernel
theorem dL_viewPoll_19 : decode cL_viewPoll 19 = .ok (.iconst 2, 1) := by decide +kernel
theorem dL_viewPoll_20 : decode cL_viewPoll 20 = .ok (.ireturn, 1) := by decide +kernel
theorem dL_viewPoll_21 : decode cL_viewPoll 21 = .ok (.iconst 0, 1) := by decide +kernel
theorem dL_viewPoll_22 : decode cL_viewPoll 22 = .ok (.ireturn, 1) := by decide +kernel
theorem dL_viewClear_0 : decode cL_viewClear 0 = .ok (.aload_n 2, 1) := by decide +kernel
theorem dL_viewClear_1 : decode cL_viewClear 1 = .ok (.iconst 0, 1) := by decide +kernel
theorem dL_viewClear_2 : decode cL_viewClear 2 = .ok (.aload_n 0, 1) := by decide +kernel
theorem dL_viewClear_3 : decode cL_viewClear 3 = .ok (.iload_n 1, 1) := by decide +kernel
theorem dL_viewClear_4 : decode cL_viewClear 4 = .ok (.invokevirtual 87, 3) := by decide +kernel
theorem dL_viewClear_7 : decode cL_viewClear 7 = .ok (.i2l, 1) := by decide +kernel
theorem dL_viewClear_8 : decode cL_viewClear 8 = .ok (.lastore, 1) := by decide +kernel
theorem dL_viewClear_9 : decode cL_viewClear 9 = .ok (.goto 9, 3) := by decide +kernel
theorem dL_viewClear_12 : decode cL_viewClear 12 = .ok (.astore_n 3, 1) := by decide +kernel
theorem dL_viewClear_13 : decode cL_viewClear 13 = .ok (.iconst 1, 1) := by decide +kernel
theorem dL_viewClear_14 : decode cL_viewClear 14 = .ok (.ireturn, 1) := by decide +kernel
theorem dL_viewClear_15 : decode cL_viewClear 15 = .ok (.astore_n 3, 1) := by decide +kernel
theorem dL_viewClear_16 : decode cL_viewClear 16 = .ok (.iconst 2, 1) := by decide +kernel
theorem dL_viewClear_17 : decode cL_viewClear 17 = .ok (.ireturn, 1) := by decide +kernel
theorem dL_viewClear_18 : decode cL_viewClear 18 = .ok (.iconst 0, 1) := by decide +kernel
theorem dL_viewClear_19 : decode cL_viewClear 19 = .ok (.ireturn, 1) := by decide +kernel
theorem dL_viewSize_0 : decode cL_viewSize 0 = .ok (.aload_n 2, 1) := by decide +kernel
theorem dL_viewSize_1 : decode cL_viewSize 1 = .ok (.iconst 0, 1) := by decide +kernel
theorem dL_viewSize_2 : decode cL_viewSize 2 = .ok (.aload_n 0, 1) := by decide +kernel
theorem dL_viewSize_3 : decode cL_viewSize 3 = .ok (.iload_n 1, 1) := by decide +kernel
theorem dL_viewSize_4 : decode cL_viewSize 4 = .ok (.invokevirtual 90, 3) := by decide +kernel
theorem dL_viewSize_7 : decode cL_viewSize 7 = .ok (.i2l, 1) := by decide +kernel
theorem dL_viewSize_8 : decode cL_viewSize 8 = .ok (.lastore, 1) := by decide +kernel
theorem dL_viewSize_9 : decode cL_viewSize 9 = .ok (.goto 6, 3) := by decide +kernel
theorem dL_viewSize_12 : decode cL_viewSize 12 = .ok (.astore_n 3, 1) := by decide +kernel
theorem dL_viewSize_13 : decode cL_viewSize 13 = .ok (.iconst 1, 1) := by decide +kernel
theorem dL_viewSize_14 : decode cL_viewSize 14 = .ok (.ireturn, 1) := by decide +kernel
theorem dL_viewSize_15 : decode cL_viewSize 15 = .ok (.iconst 0, 1) := by decide +kernel
theorem dL_viewSize_16 : decode cL_viewSize 16 = .ok (.ireturn, 1) := by decide +kernel
theorem dL_lies_0 : decode cL_lies 0 = .ok (.aload_n 3, 1) := by decide +kernel
theorem dL_lies_1 : decode cL_lies 1 = .ok (.iconst 0, 1) := by decide +kernel
theorem dL_lies_2 : decode cL_lies 2 = .ok (.aload_n 0, 1) := by decide +kernel
theorem dL_lies_3 : decode cL_lies 3 = .ok (.iload_n 1, 1) := by decide +kernel
theorem dL_lies_4 : decode cL_lies 4 = .ok (.iload_n 2, 1) := by decide +kernel
theorem dL_lies_5 : decode cL_lies 5 = .ok (.invokevirtual 93, 3) := by decide +kernel
theorem dL_lies_8 : decode cL_lies 8 = .ok (.ifCond .eq 7, 3) := by decide +kernel
theorem dL_lies_11 : decode cL_lies 11 = .ok (.lconst 1, 1) := by decide +kernel
theorem dL_lies_12 : decode cL_lies 12 = .ok (.goto 4, 3) := by decide +kernel
theorem dL_lies_15 : decode cL_lies 15 = .ok (.lconst 0, 1) := by decide +kernel
theorem dL_lies_16 : decode cL_lies 16 = .ok (.lastore, 1) := by decide +kernel
theorem dL_lies_17 : decode cL_lies 17 = .ok (.goto 11, 3) := by decide +kernel
theorem dL_lies_20 : decode cL_lies 20 = .ok (.astore 4, 2) := by decide +kernel
theorem dL_lies_22 : decode cL_lies 22 = .ok (.iconst 1, 1) := by decide +kernel
theorem dL_lies_23 : decode cL_lies 23 = .ok (.ireturn, 1) := by decide +kernel
theorem dL_lies_24 : decode cL_lies 24 = .ok (.astore 4, 2) := by decide +kernel
theorem dL_lies_26 : decode cL_lies 26 = .ok (.iconst 2, 1) := by decide +kernel
theorem dL_lies_27 : decode cL_lies 27 = .ok (.ireturn, 1) := by decide +kernel
theorem dL_lies_28 : decode cL_lies 28 = .ok (.iconst 0, 1) := by decide +kernel
theorem dL_lies_29 : decode cL_lies 29 = .ok (.ireturn, 1) := by decide +kernel
theorem dL_step_0 : decode cL_step 0 = .ok (.aload 5, 2) := by decide +kernel
theorem dL_step_2 : decode cL_step 2 = .ok (.iconst 0, 1) := by decide +kernel
theorem dL_step_3 : decode cL_step 3 = .ok (.aload_n 0, 1) := by decide +kernel
theorem dL_step_4 : decode cL_step 4 = .ok (.iload_n 1, 1) := by decide +kernel
theorem dL_step_5 : decode cL_step 5 = .ok (.iload_n 2, 1) := by decide +kernel
theorem dL_step_6 : decode cL_step 6 = .ok (.iload_n 3, 1) := by decide +kernel
theorem dL_step_7 : decode cL_step 7 = .ok (.iload 4, 2) := by decide +kernel
theorem dL_step_9 : decode cL_step 9 = .ok (.invokevirtual 96, 3) := by decide +kernel
theorem dL_step_12 : decode cL_step 12 = .ok (.i2l, 1) := by decide +kernel
theorem dL_step_13 : decode cL_step 13 = .ok (.lastore, 1) := by decide +kernel
theorem dL_step_14 : decode cL_step 14 = .ok (.goto 15, 3) := by decide +kernel
theorem dL_step_17 : decode cL_step 17 = .ok (.astore 6, 2) := by decide +kernel
theorem dL_step_19 : decode cL_step 19 = .ok (.iconst 1, 1) := by decide +kernel
theorem dL_step_20 : decode cL_step 20 = .ok (.ireturn, 1) := by decide +kernel
theorem dL_step_21 : decode cL_step 21 = .ok (.astore 6, 2) := by decide +kernel
theorem dL_step_23 : decode cL_step 23 = .ok (.iconst 2, 1) := by decide +kernel
theorem dL_step_24 : decode cL_step 24 = .ok (.ireturn, 1) := by decide +kernel
theorem dL_step_25 : decode cL_step 25 = .ok (.astore 6, 2) := by decide +kernel
theorem dL_step_27 : decode cL_step 27 = .ok (.iconst 3, 1) := by decide +kernel
theorem dL_step_28 : decode cL_step 28 = .ok (.ireturn, 1) := by decide +kernel
theorem dL_step_29 : decode cL_step 29 = .ok (.iconst 0, 1) := by decide +kernel
theorem dL_step_30 : decode cL_step 30 = .ok (.ireturn, 1) := by decide +kernel
theorem dL_forget_0 : decode cL_forget 0 = .ok (.aload_n 2, 1) := by decide +kernel
theorem dL_forget_1 : decode cL_forget 1 = .ok (.iconst 0, 1) := by decide +kernel
theorem dL_forget_2 : decode cL_forget 2 = .ok (.aload_n 0, 1) := by decide +kernel
theorem dL_forget_3 : decode cL_forget 3 = .ok (.iload_n 1, 1) := by decide +kernel
theorem dL_forget_4 : decode cL_forget 4 = .ok (.invokevirtual 100, 3) := by decide +kernel
theorem dL_forget_7 : decode cL_forget 7 = .ok (.i2l, 1) := by decide +kernel
theorem dL_forget_8 : decode cL_forget 8 = .ok (.lastore, 1) := by decide +kernel
theorem dL_forget_9 : decode cL_forget 9 = .ok (.goto 6, 3) := by decide +kernel
theorem dL_forget_12 : decode cL_forget 12 = .ok (.astore_n 3, 1) := by decide +kernel
theorem dL_forget_13 : decode cL_forget 13 = .ok (.iconst 1, 1) := by decide +kernel
theorem dL_forget_14 : decode cL_forget 14 = .ok (.ireturn, 1) := by decide +kernel
theorem dL_forget_15 : decode cL_forget 15 = .ok (.iconst 0, 1) := by decide +kernel
theorem dL_forget_16 : decode cL_forget 16 = .ok (.ireturn, 1) := by decide +kernel
theorem dL_play_0 : decode cL_play 0 = .ok (.aload_n 3, 1) := by decide +kernel
theorem dL_play_1 : decode cL_play 1 = .ok (.iconst 0, 1) := by decide +kernel
theorem dL_play_2 : decode cL_play 2 = .ok (.aload_n 0, 1) := by decide +kernel
theorem dL_play_3 : decode cL_play 3 = .ok (.iload_n 1, 1) := by decide +kernel
theorem dL_play_4 : decode cL_play 4 = .ok (.iload_n 2, 1) := by decide +kernel
theorem dL_play_5 : decode cL_play 5 = .ok (.invokevirtual 103, 3) := by decide +kernel
theorem dL_play_8 : decode cL_play 8 = .ok (.i2l, 1) := by decide +kernel
theorem dL_play_9 : decode cL_play 9 = .ok (.lastore, 1) := by decide +kernel
theorem dL_play_10 : decode cL_play 10 = .ok (.goto 11, 3) := by decide +kernel
theorem dL_play_13 : decode cL_play 13 = .ok (.astore 4, 2) := by decide +kernel
theorem dL_play_15 : decode cL_play 15 = .ok (.iconst 1, 1) := by decide +kernel
theorem dL_play_16 : decode cL_play 16 = .ok (.ireturn, 1) := by decide +kernel
theorem dL_play_17 : decode cL_play 17 = .ok (.astore 4, 2) := by decide +kernel
theorem dL_play_19 : decode cL_play 19 = .ok (.iconst 2, 1) := by decide +kernel
theorem dL_play_20 : decode cL_play 20 = .ok (.ireturn, 1) := by decide +kernel
theorem dL_play_21 : decode cL_play 21 = .ok (.iconst 0, 1) := by decide +kernel
theorem dL_play_22 : decode cL_play 22 = .ok (.ireturn, 1) := by decide +kernel
theorem dL_playBoth_0 : decode cL_playBoth 0 = .ok (.aload 5, 2) := by decide +kernel
theorem dL_playBoth_2 : decode cL_playBoth 2 = .ok (.iconst 0, 1) := by decide +kernel
theorem dL_playBoth_3 : decode cL_playBoth 3 = .ok (.aload_n 0, 1) := by decide +kernel
theorem dL_playBoth_4 : decode cL_playBoth 4 = .ok (.iload_n 1, 1) := by decide +kernel
theorem dL_playBoth_5 : decode cL_playBoth 5 = .ok (.iload_n 2, 1) := by decide +kernel
theorem dL_playBoth_6 : decode cL_playBoth 6 = .ok (.iload_n 3, 1) := by decide +kernel
theorem dL_playBoth_7 : decode cL_playBoth 7 = .ok (.iload 4, 2) := by decide +kernel
theorem dL_playBoth_9 : decode cL_playBoth 9 = .ok (.invokevirtual 106, 3) := by decide +kernel
theorem dL_playBoth_12 : decode cL_playBoth 12 = .ok (.i2l, 1) := by decide +kernel
theorem dL_playBoth_13 : decode cL_playBoth 13 = .ok (.lastore, 1) := by decide +kernel
theorem dL_playBoth_14 : decode cL_playBoth 14 = .ok (.goto 11, 3) := by decide +kernel
theorem dL_playBoth_17 : decode cL_playBoth 17 = .ok (.astore 6, 2) := by decide +kernel
theorem dL_playBoth_19 : decode cL_playBoth 19 = .ok (.iconst 1, 1) := by decide +kernel
theorem dL_playBoth_20 : decode cL_playBoth 20 = .ok (.ireturn, 1) := by decide +kernel
theorem dL_playBoth_21 : decode cL_playBoth 21 = .ok (.astore 6, 2) := by decide +kernel
theorem dL_playBoth_23 : decode cL_playBoth 23 = .ok (.iconst 2, 1) := by decide +kernel
theorem dL_playBoth_24 : decode cL_playBoth 24 = .ok (.ireturn, 1) := by decide +kernel
theorem dL_playBoth_25 : decode cL_playBoth 25 = .ok (.iconst 0, 1) := by decide +kernel
theorem dL_playBoth_26 : decode cL_playBoth 26 = .ok (.ireturn, 1) := by decide +kernel
theorem dL_meet_0 : decode cL_meet 0 = .ok (.aload_n 3, 1) := by decide +kernel
theorem dL_meet_1 : decode cL_meet 1 = .ok (.iconst 0, 1) := by decide +kernel
theorem dL_meet_2 : decode cL_meet 2 = .ok (.aload_n 0, 1) := by decide +kernel
theorem dL_meet_3 : decode cL_meet 3 = .ok (.iload_n 1, 1) := by decide +kernel
theorem dL_meet_4 : decode cL_meet 4 = .ok (.iload_n 2, 1) := by decide +kernel
theorem dL_meet_5 : decode cL_meet 5 = .ok (.invokevirtual 110, 3) := by decide +kernel
theorem dL_meet_8 : decode cL_meet 8 = .ok (.i2l, 1) := by decide +kernel
theorem dL_meet_9 : decode cL_meet 9 = .ok (.lastore, 1) := by decide +kernel
theorem dL_meet_10 : decode cL_meet 10 = .ok (.goto 7, 3) := by decide +kernel
theorem dL_meet_13 : decode cL_meet 13 = .ok (.astore 4, 2) := by decide +kernel
theorem dL_meet_15 : decode cL_meet 15 = .ok (.iconst 1, 1) := by decide +kernel
theorem dL_meet_16 : decode cL_meet 16 = .ok (.ireturn, 1) := by decide +kernel
theorem dL_meet_17 : decode cL_meet 17 = .ok (.iconst 0, 1) := by decide +kernel
theorem dL_meet_18 : decode cL_meet 18 = .ok (.ireturn, 1) := by decide +kernel
theorem dL_opposite_0 : decode cL_opposite 0 = .ok (.aload 4, 2) := by decide +kernel
theorem dL_opposite_2 : decode cL_opposite 2 = .ok (.iconst 0, 1) := by decide +kernel
theorem dL_opposite_3 : decode cL_opposite 3 = .ok (.aload_n 0, 1) := by decide +kernel
theorem dL_opposite_4 : decode cL_opposite 4 = .ok (.iload_n 1, 1) := by decide +kernel
theorem dL_opposite_5 : decode cL_opposite 5 = .ok (.iload_n 2, 1) := by decide +kernel
theorem dL_opposite_6 : decode cL_opposite 6 = .ok (.iload_n 3, 1) := by decide +kernel
theorem dL_opposite_7 : decode cL_opposite 7 = .ok (.invokevirtual 113, 3) := by decide +kernel
theorem dL_opposite_10 : decode cL_opposite 10 = .ok (.i2l, 1) := by decide +kernel
theorem dL_opposite_11 : decode cL_opposite 11 = .ok (.lastore, 1) := by decide +kernel
theorem dL_opposite_12 : decode cL_opposite 12 = .ok (.goto 7, 3) := by decide +kernel
theorem dL_opposite_15 : decode cL_opposite 15 = .ok (.astore 5, 2) := by decide +kernel
theorem dL_opposite_17 : decode cL_opposite 17 = .ok (.iconst 1, 1) := by decide +kernel
theorem dL_opposite_18 : decode cL_opposite 18 = .ok (.ireturn, 1) := by decide +kernel
theorem dL_opposite_19 : decode cL_opposite 19 = .ok (.iconst 0, 1) := by decide +kernel
theorem dL_opposite_20 : decode cL_opposite 20 = .ok (.ireturn, 1) := by decide +kernel
theorem dL_combine_0 : decode cL_combine 0 = .ok (.aload 4, 2) := by decide +kernel
theorem dL_combine_2 : decode cL_combine 2 = .ok (.iconst 0, 1) := by decide +kernel
theorem dL_combine_3 : decode cL_combine 3 = .ok (.aload_n 0, 1) := by decide +kernel
theorem dL_combine_4 : decode cL_combine 4 = .ok (.iload_n 1, 1) := by decide +kernel
theorem dL_combine_5 : decode cL_combine 5 = .ok (.iload_n 2, 1) := by decide +kernel
theorem dL_combine_6 : decode cL_combine 6 = .ok (.iload_n 3, 1) := by decide +kernel
theorem dL_combine_7 : decode cL_combine 7 = .ok (.invokevirtual 116, 3) := by decide +kernel
theorem dL_combine_10 : decode cL_combine 10 = .ok (.i2l, 1) := by decide +kernel
theorem dL_combine_11 : decode cL_combine 11 = .ok (.lastore, 1) := by decide +kernel
theorem dL_combine_12 : decode cL_combine 12 = .ok (.goto 15, 3) := by decide +kernel
theorem dL_combine_15 : decode cL_combine 15 = .ok (.astore 5, 2) := by decide +kernel
theorem dL_combine_17 : decode cL_combine 17 = .ok (.iconst 1, 1) := by decide +kernel
theorem dL_combine_18 : decode cL_combine 18 = .ok (.ireturn, 1) := by decide +kernel
theorem dL_combine_19 : decode cL_combine 19 = .ok (.astore 5, 2) := by decide +kernel
theorem dL_combine_21 : decode cL_combine 21 = .ok (.iconst 2, 1) := by decide +kernel
theorem dL_combine_22 : decode cL_combine 22 = .ok (.ireturn, 1) := by decide +kernel
theorem dL_combine_23 : decode cL_combine 23 = .ok (.astore 5, 2) := by decide +kernel
theorem dL_combine_25 : decode cL_combine 25 = .ok (.iconst 3, 1) := by decide +kernel
theorem dL_combine_26 : decode cL_combine 26 = .ok (.ireturn, 1) := by decide +kernel
theorem dL_combine_27 : decode cL_combine 27 = .ok (.iconst 0, 1) := by decide +kernel
theorem dL_combine_28 : decode cL_combine 28 = .ok (.ireturn, 1) := by decide +kernel
theorem dL_fullShare_0 : decode cL_fullShare 0 = .ok (.aload_n 2, 1) := by decide +kernel
theorem dL_fullShare_1 : decode cL_fullShare 1 = .ok (.iconst 0, 1) := by decide +kernel
theorem dL_fullShare_2 : decode cL_fullShare 2 = .ok (.aload_n 0, 1) := by decide +kernel
theorem dL_fullShare_3 : decode cL_fullShare 3 = .ok (.iload_n 1, 1) := by decide +kernel
theorem dL_fullShare_4 : decode cL_fullShare 4 = .ok (.invokevirtual 119, 3) := by decide +kernel
theorem dL_fullShare_7 : decode cL_fullShare 7 = .ok (.f2d, 1) := by decide +kernel
theorem dL_fullShare_8 : decode cL_fullShare 8 = .ok (.dastore, 1) := by decide +kernel
theorem dL_fullShare_9 : decode cL_fullShare 9 = .ok (.goto 6, 3) := by decide +kernel
theorem dL_fullShare_12 : decode cL_fullShare 12 = .ok (.astore_n 3, 1) := by decide +kernel
theorem dL_fullShare_13 : decode cL_fullShare 13 = .ok (.iconst 1, 1) := by decide +kernel
theorem dL_fullShare_14 : decode cL_fullShare 14 = .ok (.ireturn, 1) := by decide +kernel
theorem dL_fullShare_15 : decode cL_fullShare 15 = .ok (.iconst 0, 1) := by decide +kernel
theorem dL_fullShare_16 : decode cL_fullShare 16 = .ok (.ireturn, 1) := by decide +kernel
theorem dL_meanKey_0 : decode cL_meanKey 0 = .ok (.aload_n 2, 1) := by decide +kernel
theorem dL_meanKey_1 : decode cL_meanKey 1 = .ok (.iconst 0, 1) := by decide +kernel
theorem dL_meanKey_2 : decode cL_meanKey 2 = .ok (.aload_n 0, 1) := by decide +kernel
theorem dL_meanKey_3 : decode cL_meanKey 3 = .ok (.iload_n 1, 1) := by decide +kernel
theorem dL_meanKey_4 : decode cL_meanKey 4 = .ok (.invokevirtual 123, 3) := by decide +kernel
theorem dL_meanKey_7 : decode cL_meanKey 7 = .ok (.dastore, 1) := by decide +kernel
theorem dL_meanKey_8 : decode cL_meanKey 8 = .ok (.goto 9, 3) := by decide +kernel
theorem dL_meanKey_11 : decode cL_meanKey 11 = .ok (.astore_n 3, 1) := by decide +kernel
theorem dL_meanKey_12 : decode cL_meanKey 12 = .ok (.iconst 1, 1) := by decide +kernel
theorem dL_meanKey_13 : decode cL_meanKey 13 = .ok (.ireturn, 1) := by decide +kernel
theorem dL_meanKey_14 : decode cL_meanKey 14 = .ok (.astore_n 3, 1) := by decide +kernel
theorem dL_meanKey_15 : decode cL_meanKey 15 = .ok (.iconst 2, 1) := by decide +kernel
theorem dL_meanKey_16 : decode cL_meanKey 16 = .ok (.ireturn, 1) := by decide +kernel
theorem dL_meanKey_17 : decode cL_meanKey 17 = .ok (.iconst 0, 1) := by decide +kernel
theorem dL_meanKey_18 : decode cL_meanKey 18 = .ok (.ireturn, 1) := by decide +kernel
theorem dL_law_0 : decode cL_law 0 = .ok (.new 8, 3) := by decide +kernel
theorem dL_law_3 : decode cL_law 3 = .ok (.dup, 1) := by decide +kernel
theorem dL_law_4 : decode cL_law 4 = .ok (.invokespecial 129, 3) := by decide +kernel
theorem dL_law_7 : decode cL_law 7 = .ok (.astore_n 1, 1) := by decide +kernel
theorem dL_law_8 : decode cL_law 8 = .ok (.new 130, 3) := by decide +kernel
theorem dL_law_11 : decode cL_law 11 = .ok (.dup, 1) := by decide +kernel
theorem dL_law_12 : decode cL_law 12 = .ok (.invokespecial 132, 3) := by decide +kernel
theorem dL_law_15 : decode cL_law 15 = .ok (.astore_n 2, 1) := by decide +kernel
theorem dL_law_16 : decode cL_law 16 = .ok (.iconst 1, 1) := by decide +kernel
theorem dL_law_17 : decode cL_law 17 = .ok (.newarray .long, 2) := by decide +kernel
theorem dL_law_19 : decode cL_law 19 = .ok (.astore_n 3, 1) := by decide +kernel
theorem dL_law_20 : decode cL_law 20 = .ok (.iconst 1, 1) := by decide +kernel
theorem dL_law_21 : decode cL_law 21 = .ok (.newarray .double, 2) := by decide +kernel
theorem dL_law_23 : decode cL_law 23 = .ok (.astore 4, 2) := by decide +kernel
theorem dL_law_25 : decode cL_law 25 = .ok (.iconst 0, 1) := by decide +kernel
theorem dL_law_26 : decode cL_law 26 = .ok (.istore 5, 2) := by decide +kernel
theorem dL_law_28 : decode cL_law 28 = .ok (.iload 5, 2) := by decide +kernel
theorem dL_law_30 : decode cL_law 30 = .ok (.aload_n 0, 1) := by decide +kernel
theorem dL_law_31 : decode cL_law 31 = .ok (.arraylength, 1) := by decide +kernel
theorem dL_law_32 : decode cL_law 32 = .ok (.bipush 7, 2) := by decide +kernel
theorem dL_law_34 : decode cL_law 34 = .ok (.isub, 1) := by decide +kernel
theorem dL_law_35 : decode cL_law 35 = .ok (.if_icmp .gt 2700, 3) := by decide +kernel
theorem dL_law_38 : decode cL_law 38 = .ok (.aload_n 0, 1) := by decide +kernel
theorem dL_law_39 : decode cL_law 39 = .ok (.iload 5, 2) := by decide +kernel
theorem dL_law_41 : decode cL_law 41 = .ok (.iaload, 1) := by decide +kernel
theorem dL_law_42 : decode cL_law 42 = .ok (.bipush 63, 2) := by decide +kernel
theorem dL_law_44 : decode cL_law 44 = .ok (.iand, 1) := by decide +kernel
theorem dL_law_45 : decode cL_law 45 = .ok (.tableswitch 2684 0 33 #[151, 231, 299, 367, 449, 533, 617, 661, 745, 801, 857, 953, 1009, 1084, 1234, 1370, 1450, 1525, 1607, 1691, 1775, 1831, 1887, 1962, 2056, 2112, 2180, 2272, 2340, 2420, 2502, 2580, 2657, 2671], 151) := by decide +kernel
theorem dL_law_196 : decode cL_law 196 = .ok (.aload_n 1, 1) := by decide +kernel
theorem dL_law_197 : decode cL_law 197 = .ok (.aload_n 0, 1) := by decide +kernel
theorem dL_law_198 : decode cL_law 198 = .ok (.iload 5, 2) := by decide +kernel
theorem dL_law_200 : decode cL_law 200 = .ok (.iconst 1, 1) := by decide +kernel
theorem dL_law_201 : decode cL_law 201 = .ok (.iadd, 1) := by decide +kernel
theorem dL_law_202 : decode cL_law 202 = .ok (.iaload, 1) := by decide +kernel
theorem dL_law_203 : decode cL_law 203 = .ok (.aload_n 0, 1) := by decide +kernel
theorem dL_law_204 : decode cL_law 204 = .ok (.iload 5, 2) := by decide +kernel
theorem dL_law_206 : decode cL_law 206 = .ok (.iconst 2, 1) := by decide +kernel
theorem dL_law_207 : decode cL_law 207 = .ok (.iadd, 1) := by decide +kernel
theorem dL_law_208 : decode cL_law 208 = .ok (.iaload, 1) := by decide +kernel
theorem dL_law_209 : decode cL_law 209 = .ok (.aload_n 0, 1) := by decide +kernel
theorem dL_law_210 : decode cL_law 210 = .ok (.iload 5, 2) := by decide +kernel
theorem dL_law_212 : decode cL_law 212 = .ok (.iconst 3, 1) := by decide +kernel
theorem dL_law_213 : decode cL_law 213 = .ok (.iadd, 1) := by decide +kernel
theorem dL_law_214 : decode cL_law 214 = .ok (.iaload, 1) := by decide +kernel
theorem dL_law_215 : decode cL_law 215 = .ok (.aload_n 3, 1) := by decide +kernel
theorem dL_law_216 : decode cL_law 216 = .ok (.invokestatic 133, 3) := by decide +kernel
theorem dL_law_219 : decode cL_law 219 = .ok (.istore 6, 2) := by decide +kernel
theorem dL_law_221 : decode cL_law 221 = .ok (.aload_n 2, 1) := by decide +kernel
theorem dL_law_222 : decode cL_law 222 = .ok (.aload_n 0, 1) := by decide +kernel
theorem dL_law_223 : decode cL_law 223 = .ok (.iload 5, 2) := by decide +kernel
theorem dL_law_225 : decode cL_law 225 = .ok (.iconst 1, 1) := by decide +kernel
theorem dL_law_226 : decode cL_law 226 = .ok (.iadd, 1) := by decide +kernel
theorem dL_law_227 : decode cL_law 227 = .ok (.iaload, 1) := by decide +kernel
theorem dL_law_228 : decode cL_law 228 = .ok (.aload_n 0, 1) := by decide +kernel
theorem dL_law_229 : decode cL_law 229 = .ok (.iload 5, 2) := by decide +kernel
theorem dL_law_231 : decode cL_law 231 = .ok (.iconst 2, 1) := by decide +kernel
theorem dL_law_232 : decode cL_law 232 = .ok (.iadd, 1) := by decide +kernel
theorem dL_law_233 : decode cL_law 233 = .ok (.iaload, 1) := by decide +kernel
theorem dL_law_234 : decode cL_law 234 = .ok (.aload_n 0, 1) := by decide +kernel
theorem dL_law_235 : decode cL_law 235 = .ok (.iload 5, 2) := by decide +kernel
theorem dL_law_237 : decode cL_law 237 = .ok (.iconst 3, 1) := by decide +kernel
theorem dL_law_238 : decode cL_law 238 = .ok (.iadd, 1) := by decide +kernel
theorem dL_law_239 : decode cL_law 239 = .ok (.iaload, 1) := by decide +kernel
theorem dL_law_240 : decode cL_law 240 = .ok (.invokevirtual 138, 3) := by decide +kernel
theorem dL_law_243 : decode cL_law 243 = .ok (.istore 7, 2) := by decide +kernel
theorem dL_law_245 : decode cL_law 245 = .ok (.aload_n 2, 1) := by decide +kernel
theorem dL_law_246 : decode cL_law 246 = .ok (.invokevirtual 139, 3) := by decide +kernel
theorem dL_law_249 : decode cL_law 249 = .ok (.iload 6, 2) := by decide +kernel
theorem dL_law_251 : decode cL_law 251 = .ok (.if_icmp .eq 5, 3) := by decide +kernel
theorem dL_law_254 : decode cL_law 254 = .ok (.iconst 0, 1) := by decide +kernel
theorem dL_law_255 : decode cL_law 255 = .ok (.ireturn, 1) := by decide +kernel
theorem dL_law_256 : decode cL_law 256 = .ok (.iload 6, 2) := by decide +kernel
theorem dL_law_258 : decode cL_law 258 = .ok (.ifCond .ne 15, 3) := by decide +kernel
theorem dL_law_261 : decode cL_law 261 = .ok (.aload_n 3, 1) := by decide +kernel
theorem dL_law_262 : decode cL_law 262 = .ok (.iconst 0, 1) := by decide +kernel
theorem dL_law_263 : decode cL_law 263 = .ok (.laload, 1) := by decide +kernel
theorem dL_law_264 : decode cL_law 264 = .ok (.iload 7, 2) := by decide +kernel
theorem dL_law_266 : decode cL_law 266 = .ok (.i2l, 1) := by decide +kernel
theorem dL_law_267 : decode cL_law 267 = .ok (.lcmp, 1) := by decide +kernel
theorem dL_law_268 : decode cL_law 268 = .ok (.ifCond .eq 5, 3) := by decide +kernel
theorem dL_law_271 : decode cL_law 271 = .ok (.iconst 0, 1) := by decide +kernel
theorem dL_law_272 : decode cL_law 272 = .ok (.ireturn, 1) := by decide +kernel
theorem dL_law_273 : decode cL_law 273 = .ok (.goto 2456, 3) := by decide +kernel
theorem dL_law_276 : decode cL_law 276 = .ok (.aload_n 1, 1) := by decide +kernel
theorem dL_law_277 : decode cL_law 277 = .ok (.aload_n 0, 1) := by decide +kernel
theorem dL_law_278 : decode cL_law 278 = .ok (.iload 5, 2) := by decide +kernel
theorem dL_law_280 : decode cL_law 280 = .ok (.iconst 1, 1) := by decide +kernel
theorem dL_law_281 : decode cL_law 281 = .ok (.iadd, 1) := by decide +kernel
theorem dL_law_282 : decode cL_law 282 = .ok (.iaload, 1) := by decide +kernel
theorem dL_law_283 : decode cL_law 283 = .ok (.aload_n 0, 1) := by decide +kernel
theorem dL_law_284 : decode cL_law 284 = .ok (.iload 5, 2) := by decide +kernel
theorem dL_law_286 : decode cL_law 286 = .ok (.iconst 2, 1) := by decide +kernel
theorem dL_law_287 : decode cL_law 287 = .ok (.iadd, 1) := by decide +kernel
theorem dL_law_288 : decode cL_law 288 = .ok (.iaload, 1) := by decide +kernel
theorem dL_law_289 : decode cL_law 289 = .ok (.aload_n 3, 1) := by decide +kernel
theorem dL_law_290 : decode cL_law 290 = .ok (.invokestatic 142, 3) := by decide +kernel
theorem dL_law_293 : decode cL_law 293 = .ok (.istore 6, 2) := by decide +kernel
theorem dL_law_295 : decode cL_law 295 = .ok (.aload_n 2, 1) := by decide +kernel
theorem dL_law_296 : decode cL_law 296 = .ok (.aload_n 0, 1) := by decide +kernel
theorem dL_law_297 : decode cL_law 297 = .ok (.iload 5, 2) := by decide +kernel
theorem dL_law_299 : decode cL_law 299 = .ok (.iconst 1, 1) := by decide +kernel
theorem dL_law_300 : decode cL_law 300 = .ok (.iadd, 1) := by decide +kernel
theorem dL_law_301 : decode cL_law 301 = .ok (.iaload, 1) := by decide +kernel
theorem dL_law_302 : decode cL_law 302 = .ok (.aload_n 0, 1) := by decide +kernel
theorem dL_law_303 : decode cL_law 303 = .ok (.iload 5, 2) := by decide +kernel
theorem dL_law_305 : decode cL_law 305 = .ok (.iconst 2, 1) := by decide +kernel
theorem dL_law_306 : decode cL_law 306 = .ok (.iadd, 1) := by decide +kernel
theorem dL_law_307 : decode cL_law 307 = .ok (.iaload, 1) := by decide +kernel
theorem dL_law_308 : decode cL_law 308 = .ok (.invokevirtual 145, 3) := by decide +kernel
theorem dL_law_311 : decode cL_law 311 = .ok (.istore 7, 2) := by decide +kernel
theorem dL_law_313 : decode cL_law 313 = .ok (.aload_n 2, 1) := by decide +kernel
theorem dL_law_314 : decode cL_law 314 = .ok (.invokevirtual 139, 3) := by decide +kernel
theorem dL_law_317 : decode cL_law 317 = .ok (.iload 6, 2) := by decide +kernel
theorem dL_law_319 : decode cL_law 319 = .ok (.if_icmp .eq 5, 3) := by decide +kernel
theorem dL_law_322 : decode cL_law 322 = .ok (.iconst 0, 1) := by decide +kernel
theorem dL_law_323 : decode cL_law 323 = .ok (.ireturn, 1) := by decide +kernel
theorem dL_law_324 : decode cL_law 324 = .ok (.iload 6, 2) := by decide +kernel
theorem dL_law_326 : decode cL_law 326 = .ok (.ifCond .ne 15, 3) := by decide +kernel
theorem dL_law_329 : decode cL_law 329 = .ok (.aload_n 3, 1) := by decide +kernel
theorem dL_law_330 : decode cL_law 330 = .ok (.iconst 0, 1) := by decide +kernel
theorem dL_law_331 : decode cL_law 331 = .ok (.laload, 1) := by decide +kernel
theorem dL_law_332 : decode cL_law 332 = .ok (.iload 7, 2) := by decide +kernel
theorem dL_law_334 : decode cL_law 334 = .ok (.i2l, 1) := by decide +kernel
theorem dL_law_335 : decode cL_law 335 = .ok (.lcmp, 1) := by decide +kernel
theorem dL_law_336 : decode cL_law 336 = .ok (.ifCond .eq 5, 3) := by decide +kernel
theorem dL_law_339 : decode cL_law 339 = .ok (.iconst 0, 1) := by decide +kernel
theorem dL_law_340 : decode cL_law 340 = .ok (.ireturn, 1) := by decide +kernel
theorem dL_law_341 : decode cL_law 341 = .ok (.goto 2388, 3) := by decide +kernel
theorem dL_law_344 : decode cL_law 344 = .ok (.aload_n 1, 1) := by decide +kernel
theorem dL_law_345 : decode cL_law 345 = .ok (.aload_n 0, 1) := by decide +kernel
theorem dL_law_346 : decode cL_law 346 = .ok (.iload 5, 2) := by decide +kernel
theorem dL_law_348 : decode cL_law 348 = .ok (.iconst 1, 1) := by decide +kernel
theorem dL_law_349 : decode cL_law 349 = .ok (.iadd, 1) := by decide +kernel
theorem dL_law_350 : decode cL_law 350 = .ok (.iaload, 1) := by decide +kernel
theorem dL_law_351 : decode cL_law 351 = .ok (.aload_n 0, 1) := by decide +kernel
theorem dL_law_352 : decode cL_law 352 = .ok (.iload 5, 2) := by decide +kernel
theorem dL_law_354 : decode cL_law 354 = .ok (.iconst 2, 1) := by decide +kernel
theorem dL_law_355 : decode cL_law 355 = .ok (.iadd, 1) := by decide +kernel
theorem dL_law_356 : decode cL_law 356 = .ok (.iaload, 1) := by decide +kernel
theorem dL_law_357 : decode cL_law 357 = .ok (.aload_n 3, 1) := by decide +kernel
theorem dL_law_358 : decode cL_law 358 = .ok (.invokestatic 146, 3) := by decide +kernel
theorem dL_law_361 : decode cL_law 361 = .ok (.istore 6, 2) := by decide +kernel
theorem dL_law_363 : decode cL_law 363 = .ok (.aload_n 2, 1) := by decide +kernel
theorem dL_law_364 : decode cL_law 364 = .ok (.aload_n 0, 1) := by decide +kernel
theorem dL_law_365 : decode cL_law 365 = .ok (.iload 5, 2) := by decide +kernel
theorem dL_law_367 : decode cL_law 367 = .ok (.iconst 1, 1) := by decide +kernel
theorem dL_law_368 : decode cL_law 368 = .ok (.iadd, 1) := by decide +kernel
theorem dL_law_369 : decode cL_law 369 = .ok (.iaload, 1) := by decide +kernel
theorem dL_law_370 : decode cL_law 370 = .ok (.aload_n 0, 1) := by decide +kernel
theorem dL_law_371 : decode cL_law 371 = .ok (.iload 5, 2) := by decide +kernel
theorem dL_law_373 : decode cL_law 373 = .ok (.iconst 2, 1) := by decide +kernel
theorem dL_law_374 : decode cL_law 374 = .ok (.iadd, 1) := by decide +kernel
theorem dL_law_375 : decode cL_law 375 = .ok (.iaload, 1) := by decide +kernel
theorem dL_law_376 : decode cL_law 376 = .ok (.invokevirtual 148, 3) := by decide +kernel
theorem dL_law_379 : decode cL_law 379 = .ok (.istore 7, 2) := by decide +kernel
theorem dL_law_381 : decode cL_law 381 = .ok (.aload_n 2, 1) := by decide +kernel
theorem dL_law_382 : decode cL_law 382 = .ok (.invokevirtual 139, 3) := by decide +kernel
theorem dL_law_385 : decode cL_law 385 = .ok (.iload 6, 2) := by decide +kernel
theorem dL_law_387 : decode cL_law 387 = .ok (.if_icmp .eq 5, 3) := by decide +kernel
theorem dL_law_390 : decode cL_law 390 = .ok (.iconst 0, 1) := by decide +kernel
theorem dL_law_391 : decode cL_law 391 = .ok (.ireturn, 1) := by decide +kernel
theorem dL_law_392 : decode cL_law 392 = .ok (.iload 6, 2) := by decide +kernel
theorem dL_law_394 : decode cL_law 394 = .ok (.ifCond .ne 15, 3) := by decide +kernel
theorem dL_law_397 : decode cL_law 397 = .ok (.aload_n 3, 1) := by decide +kernel
theorem dL_law_398 : decode cL_law 398 = .ok (.iconst 0, 1) := by decide +kernel
theorem dL_law_399 : decode cL_law 399 = .ok (.laload, 1) := by decide +kernel
theorem dL_law_400 : decode cL_law 400 = .ok (.iload 7, 2) := by decide +kernel
theorem dL_law_402 : decode cL_law 402 = .ok (.i2l, 1) := by decide +kernel
theorem dL_law_403 : decode cL_law 403 = .ok (.lcmp, 1) := by decide +kernel
theorem dL_law_404 : decode cL_law 404 = .ok (.ifCond .eq 5, 3) := by decide +kernel
theorem dL_law_407 : decode cL_law 407 = .ok (.iconst 0, 1) := by decide +kernel
theorem dL_law_408 : decode cL_law 408 = .ok (.ireturn, 1) := by decide +kernel
theorem dL_law_409 : decode cL_law 409 = .ok (.goto 2320, 3) := by decide +kernel
theorem dL_law_412 : decode cL_law 412 = .ok (.aload_n 1, 1) := by decide +kernel
theorem dL_law_413 : decode cL_law 413 = .ok (.aload_n 0, 1) := by decide +kernel
theorem dL_law_414 : decode cL_law 414 = .ok (.iload 5, 2) := by decide +kernel
theorem dL_law_416 : decode cL_law 416 = .ok (.iconst 1, 1) := by decide +kernel
theorem dL_law_417 : decode cL_law 417 = .ok (.iadd, 1) := by decide +kernel
theorem dL_law_418 : decode cL_law 418 = .ok (.iaload, 1) := by decide +kernel
theorem dL_law_419 : decode cL_law 419 = .ok (.aload_n 0, 1) := by decide +kernel
theorem dL_law_420 : decode cL_law 420 = .ok (.iload 5, 2) := by decide +kernel
theorem dL_law_422 : decode cL_law 422 = .ok (.iconst 2, 1) := by decide +kernel
theorem dL_law_423 : decode cL_law 423 = .ok (.iadd, 1) := by decide +kernel
theorem dL_law_424 : decode cL_law 424 = .ok (.iaload, 1) := by decide +kernel
theorem dL_law_425 : decode cL_law 425 = .ok (.aload_n 0, 1) := by decide +kernel
theorem dL_law_426 : decode cL_law 426 = .ok (.iload 5, 2) := by decide +kernel
theorem dL_law_428 : decode cL_law 428 = .ok (.iconst 3, 1) := by decide +kernel
theorem dL_law_429 : decode cL_law 429 = .ok (.iadd, 1) := by decide +kernel
theorem dL_law_430 : decode cL_law 430 = .ok (.iaload, 1) := by decide +kernel
theorem dL_law_431 : decode cL_law 431 = .ok (.i2c, 1) := by decide +kernel
theorem dL_law_432 : decode cL_law 432 = .ok (.aload_n 3, 1) := by decide +kernel
theorem dL_law_433 : decode cL_law 433 = .ok (.invokestatic 149, 3) := by decide +kernel
theorem dL_law_436 : decode cL_law 436 = .ok (.istore 6, 2) := by decide +kernel
theorem dL_law_438 : decode cL_law 438 = .ok (.aload_n 2, 1) := by decide +kernel
theorem dL_law_439 : decode cL_law 439 = .ok (.aload_n 0, 1) := by decide +kernel
theorem dL_law_440 : decode cL_law 440 = .ok (.iload 5, 2) := by decide +kernel
theorem dL_law_442 : decode cL_law 442 = .ok (.iconst 1, 1) := by decide +kernel
theorem dL_law_443 : decode cL_law 443 = .ok (.iadd, 1) := by decide +kernel
theorem dL_law_444 : decode cL_law 444 = .ok (.iaload, 1) := by decide +kernel
theorem dL_law_445 : decode cL_law 445 = .ok (.aload_n 0, 1) := by decide +kernel
theorem dL_law_446 : decode cL_law 446 = .ok (.iload 5, 2) := by decide +kernel
theorem dL_law_448 : decode cL_law 448 = .ok (.iconst 2, 1) := by decide +kernel
theorem dL_law_449 : decode cL_law 449 = .ok (.iadd, 1) := by decide +kernel
theorem dL_law_450 : decode cL_law 450 = .ok (.iaload, 1) := by decide +kernel
theorem dL_law_451 : decode cL_law 451 = .ok (.aload_n 0, 1) := by decide +kernel
theorem dL_law_452 : decode cL_law 452 = .ok (.iload 5, 2) := by decide +kernel
theorem dL_law_454 : decode cL_law 454 = .ok (.iconst 3, 1) := by decide +kernel
theorem dL_law_455 : decode cL_law 455 = .ok (.iadd, 1) := by decide +kernel
theorem dL_law_456 : decode cL_law 456 = .ok (.iaload, 1) := by decide +kernel
theorem dL_law_457 : decode cL_law 457 = .ok (.i2c, 1) := by decide +kernel
theorem dL_law_458 : decode cL_law 458 = .ok (.invokevirtual 152, 3) := by decide +kernel
theorem dL_law_461 : decode cL_law 461 = .ok (.istore 7, 2) := by decide +kernel
theorem dL_law_463 : decode cL_law 463 = .ok (.aload_n 2, 1) := by decide +kernel
theorem dL_law_464 : decode cL_law 464 = .ok (.invokevirtual 139, 3) := by decide +kernel
theorem dL_law_467 : decode cL_law 467 = .ok (.iload 6, 2) := by decide +kernel
theorem dL_law_469 : decode cL_law 469 = .ok (.if_icmp .eq 5, 3) := by decide +kernel
theorem dL_law_472 : decode cL_law 472 = .ok (.iconst 0, 1) := by decide +kernel
theorem dL_law_473 : decode cL_law 473 = .ok (.ireturn, 1) := by decide +kernel
theorem dL_law_474 : decode cL_law 474 = .ok (.iload 6, 2) := by decide +kernel
theorem dL_law_476 : decode cL_law 476 = .ok (.ifCond .ne 15, 3) := by decide +kernel
theorem dL_law_479 : decode cL_law 479 = .ok (.aload_n 3, 1) := by decide +kernel
theorem dL_law_480 : decode cL_law 480 = .ok (.iconst 0, 1) := by decide +kernel
theorem dL_law_481 : decode cL_law 481 = .ok (.laload, 1) := by decide +kernel
theorem dL_law_482 : decode cL_law 482 = .ok (.iload 7, 2) := by decide +kernel
theorem dL_law_484 : decode cL_law 484 = .ok (.i2l, 1) := by decide +kernel
theorem dL_law_485 : decode cL_law 485 = .ok (.lcmp, 1) := by decide +kernel
theorem dL_law_486 : decode cL_law 486 = .ok (.ifCond .eq 5, 3) := by decide +kernel
theorem dL_law_489 : decode cL_law 489 = .ok (.iconst 0, 1) := by decide +kernel
theorem dL_law_490 : decode cL_law 490 = .ok (.ireturn, 1) := by decide +kernel
theorem dL_law_491 : decode cL_law 491 = .ok (.goto 2238, 3) := by decide +kernel
theorem dL_law_494 : decode cL_law 494 = .ok (.aload_n 1, 1) := by decide +kernel
theorem dL_law_495 : decode cL_law 495 = .ok (.aload_n 0, 1) := by decide +kernel
theorem dL_law_496 : decode cL_law 496 = .ok (.iload 5, 2) := by decide +kernel
theorem dL_law_498 : decode cL_law 498 = .ok (.iconst 1, 1) := by decide +kernel
theorem dL_law_499 : decode cL_law 499 = .ok (.iadd, 1) := by decide +kernel
theorem dL_law_500 : decode cL_law 500 = .ok (.iaload, 1) := by decide +kernel
theorem dL_law_501 : decode cL_law 501 = .ok (.aload_n 0, 1) := by decide +kernel
theorem dL_law_502 : decode cL_law 502 = .ok (.iload 5, 2) := by decide +kernel
theorem dL_law_504 : decode cL_law 504 = .ok (.iconst 2, 1) := by decide +kernel
theorem dL_law_505 : decode cL_law 505 = .ok (.iadd, 1) := by decide +kernel
theorem dL_law_506 : decode cL_law 506 = .ok (.iaload, 1) := by decide +kernel
theorem dL_law_507 : decode cL_law 507 = .ok (.ifCond .eq 7, 3) := by decide +kernel
theorem dL_law_510 : decode cL_law 510 = .ok (.iconst 1, 1) := by decide +kernel
theorem dL_law_511 : decode cL_law 511 = .ok (.goto 4, 3) := by decide +kernel
theorem dL_law_514 : decode cL_law 514 = .ok (.iconst 0, 1) := by decide +kernel
theorem dL_law_515 : decode cL_law 515 = .ok (.aload_n 3, 1) := by decide +kernel
theorem dL_law_516 : decode cL_law 516 = .ok (.invokestatic 153, 3) := by decide +kernel
theorem dL_law_519 : decode cL_law 519 = .ok (.istore 6, 2) := by decide +kernel
theorem dL_law_521 : decode cL_law 521 = .ok (.aload_n 2, 1) := by decide +kernel
theorem dL_law_522 : decode cL_law 522 = .ok (.aload_n 0, 1) := by decide +kernel
theorem dL_law_523 : decode cL_law 523 = .ok (.iload 5, 2) := by decide +kernel
theorem dL_law_525 : decode cL_law 525 = .ok (.iconst 1, 1) := by decide +kernel
theorem dL_law_526 : decode cL_law 526 = .ok (.iadd, 1) := by decide +kernel
theorem dL_law_527 : decode cL_law 527 = .ok (.iaload, 1) := by decide +kernel
theorem dL_law_528 : decode cL_law 528 = .ok (.aload_n 0, 1) := by decide +kernel
theorem dL_law_529 : decode cL_law 529 = .ok (.iload 5, 2) := by decide +kernel
theorem dL_law_531 : decode cL_law 531 = .ok (.iconst 2, 1) := by decide +kernel
theorem dL_law_532 : decode cL_law 532 = .ok (.iadd, 1) := by decide +kernel
theorem dL_law_533 : decode cL_law 533 = .ok (.iaload, 1) := by decide +kernel
theorem dL_law_534 : decode cL_law 534 = .ok (.ifCond .eq 7, 3) := by decide +kernel
theorem dL_law_537 : decode cL_law 537 = .ok (.iconst 1, 1) := by decide +kernel
theorem dL_law_538 : decode cL_law 538 = .ok (.goto 4, 3) := by decide +kernel
theorem dL_law_541 : decode cL_law 541 = .ok (.iconst 0, 1) := by decide +kernel
theorem dL_law_542 : decode cL_law 542 = .ok (.invokevirtual 156, 3) := by decide +kernel
theorem dL_law_545 : decode cL_law 545 = .ok (.istore 7, 2) := by decide +kernel
theorem dL_law_547 : decode cL_law 547 = .ok (.aload_n 2, 1) := by decide +kernel
theorem dL_law_548 : decode cL_law 548 = .ok (.invokevirtual 139, 3) := by decide +kernel
theorem dL_law_551 : decode cL_law 551 = .ok (.iload 6, 2) := by decide +kernel
theorem dL_law_553 : decode cL_law 553 = .ok (.if_icmp .eq 5, 3) := by decide +kernel
theorem dL_law_556 : decode cL_law 556 = .ok (.iconst 0, 1) := by decide +kernel
theorem dL_law_557 : decode cL_law 557 = .ok (.ireturn, 1) := by decide +kernel
theorem dL_law_558 : decode cL_law 558 = .ok (.iload 6, 2) := by decide +kernel
theorem dL_law_560 : decode cL_law 560 = .ok (.ifCond .ne 15, 3) := by decide +kernel
theorem dL_law_563 : decode cL_law 563 = .ok (.aload_n 3, 1) := by decide +kernel
theorem dL_law_564 : decode cL_law 564 = .ok (.iconst 0, 1) := by decide +kernel
theorem dL_law_565 : decode cL_law 565 = .ok (.laload, 1) := by decide +kernel
theorem dL_law_566 : decode cL_law 566 = .ok (.iload 7, 2) := by decide +kernel
theorem dL_law_568 : decode cL_law 568 = .ok (.i2l, 1) := by decide +kernel
theorem dL_law_569 : decode cL_law 569 = .ok (.lcmp, 1) := by decide +kernel
theorem dL_law_570 : decode cL_law 570 = .ok (.ifCond .eq 5, 3) := by decide +kernel
theorem dL_law_573 : decode cL_law 573 = .ok (.iconst 0, 1) := by decide +kernel
theorem dL_law_574 : decode cL_law 574 = .ok (.ireturn, 1) := by decide +kernel
theorem dL_law_575 : decode cL_law 575 = .ok (.goto 2154, 3) := by decide +kernel
theorem dL_law_578 : decode cL_law 578 = .ok (.aload_n 1, 1) := by decide +kernel
theorem dL_law_579 : decode cL_law 579 = .ok (.aload_n 0, 1) := by decide +kernel
theorem dL_law_580 : decode cL_law 580 = .ok (.iload 5, 2) := by decide +kernel
theorem dL_law_582 : decode cL_law 582 = .ok (.iconst 1, 1) := by decide +kernel
theorem dL_law_583 : decode cL_law 583 = .ok (.iadd, 1) := by decide +kernel
theorem dL_law_584 : decode cL_law 584 = .ok (.iaload, 1) := by decide +kernel
theorem dL_law_585 : decode cL_law 585 = .ok (.aload_n 0, 1) := by decide +kernel
theorem dL_law_586 : decode cL_law 586 = .ok (.iload 5, 2) := by decide +kernel
theorem dL_law_588 : decode cL_law 588 = .ok (.iconst 2, 1) := by decide +kernel
theorem dL_law_589 : decode cL_law 589 = .ok (.iadd, 1) := by decide +kernel
theorem dL_law_590 : decode cL_law 590 = .ok (.iaload, 1) := by decide +kernel
theorem dL_law_591 : decode cL_law 591 = .ok (.ifCond .eq 7, 3) := by decide +kernel
theorem dL_law_594 : decode cL_law 594 = .ok (.iconst 1, 1) := by decide +kernel
theorem dL_law_595 : decode cL_law 595 = .ok (.goto 4, 3) := by decide +kernel
theorem dL_law_598 : decode cL_law 598 = .ok (.iconst 0, 1) := by decide +kernel
theorem dL_law_599 : decode cL_law 599 = .ok (.aload_n 3, 1) := by decide +kernel
theorem dL_law_600 : decode cL_law 600 = .ok (.invokestatic 157, 3) := by decide +kernel
theorem dL_law_603 : decode cL_law 603 = .ok (.istore 6, 2) := by decide +kernel
theorem dL_law_605 : decode cL_law 605 = .ok (.aload_n 2, 1) := by decide +kernel
theorem dL_law_606 : decode cL_law 606 = .ok (.aload_n 0, 1) := by decide +kernel
theorem dL_law_607 : decode cL_law 607 = .ok (.iload 5, 2) := by decide +kernel
theorem dL_law_609 : decode cL_law 609 = .ok (.iconst 1, 1) := by decide +kernel
theorem dL_law_610 : decode cL_law 610 = .ok (.iadd, 1) := by decide +kernel
theorem dL_law_611 : decode cL_law 611 = .ok (.iaload, 1) := by decide +kernel
theorem dL_law_612 : decode cL_law 612 = .ok (.aload_n 0, 1) := by decide +kernel
theorem dL_law_613 : decode cL_law 613 = .ok (.iload 5, 2) := by decide +kernel
theorem dL_law_615 : decode cL_law 615 = .ok (.iconst 2, 1) := by decide +kernel
theorem dL_law_616 : decode cL_law 616 = .ok (.iadd, 1) := by decide +kernel
theorem dL_law_617 : decode cL_law 617 = .ok (.iaload, 1) := by decide +kernel
theorem dL_law_618 : decode cL_law 618 = .ok (.ifCond .eq 7, 3) := by decide +kernel
theorem dL_law_621 : decode cL_law 621 = .ok (.iconst 1, 1) := by decide +kernel
theorem dL_law_622 : decode cL_law 622 = .ok (.goto 4, 3) := by decide +kernel
theorem dL_law_625 : decode cL_law 625 = .ok (.iconst 0, 1) := by decide +kernel
theorem dL_law_626 : decode cL_law 626 = .ok (.invokevirtual 159, 3) := by decide +kernel
theorem dL_law_629 : decode cL_law 629 = .ok (.istore 7, 2) := by decide +kernel
theorem dL_law_631 : decode cL_law 631 = .ok (.aload_n 2, 1) := by decide +kernel
theorem dL_law_632 : decode cL_law 632 = .ok (.invokevirtual 139, 3) := by decide +kernel
theorem dL_law_635 : decode cL_law 635 = .ok (.iload 6, 2) := by decide +kernel
theorem dL_law_637 : decode cL_law 637 = .ok (.if_icmp .eq 5, 3) := by decide +kernel
theorem dL_law_640 : decode cL_law 640 = .ok (.iconst 0, 1) := by decide +kernel
theorem dL_law_641 : decode cL_law 641 = .ok (.ireturn, 1) := by decide +kernel
theorem dL_law_642 : decode cL_law 642 = .ok (.iload 6, 2) := by decide +kernel
theorem dL_law_644 : decode cL_law 644 = .ok (.ifCond .ne 15, 3) := by decide +kernel
theorem dL_law_647 : decode cL_law 647 = .ok (.aload_n 3, 1) := by decide +kernel
theorem dL_law_648 : decode cL_law 648 = .ok (.iconst 0, 1) := by decide +kernel
theorem dL_law_649 : decode cL_law 649 = .ok (.laload, 1) := by decide +kernel
theorem dL_law_650 : decode cL_law 650 = .ok (.iload 7, 2) := by decide +kernel
theorem dL_law_652 : decode cL_law 652 = .ok (.i2l, 1) := by decide +kernel
theorem dL_law_653 : decode cL_law 653 = .ok (.lcmp, 1) := by decide +kernel
theorem dL_law_654 : decode cL_law 654 = .ok (.ifCond .eq 5, 3) := by decide +kernel
theorem dL_law_657 : decode cL_law 657 = .ok (.iconst 0, 1) := by decide +kernel
theorem dL_law_658 : decode cL_law 658 = .ok (.ireturn, 1) := by decide +kernel
theorem dL_law_659 : decode cL_law 659 = .ok (.goto 2070, 3) := by decide +kernel
theorem dL_law_662 : decode cL_law 662 = .ok (.aload_n 1, 1) := by decide +kernel
theorem dL_law_663 : decode cL_law 663 = .ok (.aload_n 3, 1) := by decide +kernel
theorem dL_law_664 : decode cL_law 664 = .ok (.invokestatic 160, 3) := by decide +kernel
theorem dL_law_667 : decode cL_law 667 = .ok (.istore 6, 2) := by decide +kernel
theorem dL_law_669 : decode cL_law 669 = .ok (.aload_n 2, 1) := by decide +kernel
theorem dL_law_670 : decode cL_law 670 = .ok (.invokevirtual 163, 3) := by decide +kernel
theorem dL_law_673 : decode cL_law 673 = .ok (.istore 7, 2) := by decide +kernel
theorem dL_law_675 : decode cL_law 675 = .ok (.aload_n 2, 1) := by decide +kernel
theorem dL_law_676 : decode cL_law 676 = .ok (.invokevirtual 139, 3) := by decide +kernel
theorem dL_law_679 : decode cL_law 679 = .ok (.iload 6, 2) := by decide +kernel
theorem dL_law_681 : decode cL_law 681 = .ok (.if_icmp .eq 5, 3) := by decide +kernel
theorem dL_law_684 : decode cL_law 684 = .ok (.iconst 0, 1) := by decide +kernel
theorem dL_law_685 : decode cL_law 685 = .ok (.ireturn, 1) := by decide +kernel
theorem dL_law_686 : decode cL_law 686 = .ok (.iload 6, 2) := by decide +kernel
theorem dL_law_688 : decode cL_law 688 = .ok (.ifCond .ne 15, 3) := by decide +kernel
theorem dL_law_691 : decode cL_law 691 = .ok (.aload_n 3, 1) := by decide +kernel
theorem dL_law_692 : decode cL_law 692 = .ok (.iconst 0, 1) := by decide +kernel
theorem dL_law_693 : decode cL_law 693 = .ok (.laload, 1) := by decide +kernel
theorem dL_law_694 : decode cL_law 694 = .ok (.iload 7, 2) := by decide +kernel
theorem dL_law_696 : decode cL_law 696 = .ok (.i2l, 1) := by decide +kernel
theorem dL_law_697 : decode cL_law 697 = .ok (.lcmp, 1) := by decide +kernel
theorem dL_law_698 : decode cL_law 698 = .ok (.ifCond .eq 5, 3) := by decide +kernel
theorem dL_law_701 : decode cL_law 701 = .ok (.iconst 0, 1) := by decide +kernel
theorem dL_law_702 : decode cL_law 702 = .ok (.ireturn, 1) := by decide +kernel
theorem dL_law_703 : decode cL_law 703 = .ok (.goto 2026, 3) := by decide +kernel
theorem dL_law_706 : decode cL_law 706 = .ok (.aload_n 1, 1) := by decide +kernel
theorem dL_law_707 : decode cL_law 707 = .ok (.aload_n 0, 1) := by decide +kernel
theorem dL_law_708 : decode cL_law 708 = .ok (.iload 5, 2) := by decide +kernel
theorem dL_law_710 : decode cL_law 710 = .ok (.iconst 1, 1) := by decide +kernel
theorem dL_law_711 : decode cL_law 711 = .ok (.iadd, 1) := by decide +kernel
theorem dL_law_712 : decode cL_law 712 = .ok (.iaload, 1) := by decide +kernel
theorem dL_law_713 : decode cL_law 713 = .ok (.aload_n 0, 1) := by decide +kernel
theorem dL_law_714 : decode cL_law 714 = .ok (.iload 5, 2) := by decide +kernel
theorem dL_law_716 : decode cL_law 716 = .ok (.iconst 2, 1) := by decide +kernel
theorem dL_law_717 : decode cL_law 717 = .ok (.iadd, 1) := by decide +kernel
theorem dL_law_718 : decode cL_law 718 = .ok (.iaload, 1) := by decide +kernel
theorem dL_law_719 : decode cL_law 719 = .ok (.ifCond .eq 7, 3) := by decide +kernel
theorem dL_law_722 : decode cL_law 722 = .ok (.iconst 1, 1) := by decide +kernel
theorem dL_law_723 : decode cL_law 723 = .ok (.goto 4, 3) := by decide +kernel
theorem dL_law_726 : decode cL_law 726 = .ok (.iconst 0, 1) := by decide +kernel
theorem dL_law_727 : decode cL_law 727 = .ok (.aload_n 3, 1) := by decide +kernel
theorem dL_law_728 : decode cL_law 728 = .ok (.invokestatic 164, 3) := by decide +kernel
theorem dL_law_731 : decode cL_law 731 = .ok (.istore 6, 2) := by decide +kernel
theorem dL_law_733 : decode cL_law 733 = .ok (.aload_n 2, 1) := by decide +kernel
theorem dL_law_734 : decode cL_law 734 = .ok (.aload_n 0, 1) := by decide +kernel
theorem dL_law_735 : decode cL_law 735 = .ok (.iload 5, 2) := by decide +kernel
theorem dL_law_737 : decode cL_law 737 = .ok (.iconst 1, 1) := by decide +kernel
theorem dL_law_738 : decode cL_law 738 = .ok (.iadd, 1) := by decide +kernel
theorem dL_law_739 : decode cL_law 739 = .ok (.iaload, 1) := by decide +kernel
theorem dL_law_740 : decode cL_law 740 = .ok (.aload_n 0, 1) := by decide +kernel
theorem dL_law_741 : decode cL_law 741 = .ok (.iload 5, 2) := by decide +kernel
theorem dL_law_743 : decode cL_law 743 = .ok (.iconst 2, 1) := by decide +kernel
theorem dL_law_744 : decode cL_law 744 = .ok (.iadd, 1) := by decide +kernel
theorem dL_law_745 : decode cL_law 745 = .ok (.iaload, 1) := by decide +kernel
theorem dL_law_746 : decode cL_law 746 = .ok (.ifCond .eq 7, 3) := by decide +kernel
theorem dL_law_749 : decode cL_law 749 = .ok (.iconst 1, 1) := by decide +kernel
theorem dL_law_750 : decode cL_law 750 = .ok (.goto 4, 3) := by decide +kernel
theorem dL_law_753 : decode cL_law 753 = .ok (.iconst 0, 1) := by decide +kernel
theorem dL_law_754 : decode cL_law 754 = .ok (.invokevirtual 166, 3) := by decide +kernel
theorem dL_law_757 : decode cL_law 757 = .ok (.istore 7, 2) := by decide +kernel
theorem dL_law_759 : decode cL_law 759 = .ok (.aload_n 2, 1) := by decide +kernel
theorem dL_law_760 : decode cL_law 760 = .ok (.invokevirtual 139, 3) := by decide +kernel
theorem dL_law_763 : decode cL_law 763 = .ok (.iload 6, 2) := by decide +kernel
theorem dL_law_765 : decode cL_law 765 = .ok (.if_icmp .eq 5, 3) := by decide +kernel
theorem dL_law_768 : decode cL_law 768 = .ok (.iconst 0, 1) := by decide +kernel
theorem dL_law_769 : decode cL_law 769 = .ok (.ireturn, 1) := by decide +kernel
theorem dL_law_770 : decode cL_law 770 = .ok (.iload 6, 2) := by decide +kernel
theorem dL_law_772 : decode cL_law 772 = .ok (.ifCond .ne 15, 3) := by decide +kernel
theorem dL_law_775 : decode cL_law 775 = .ok (.aload_n 3, 1) := by decide +kernel
theorem dL_law_776 : decode cL_law 776 = .ok (.iconst 0, 1) := by decide +kernel
theorem dL_law_777 : decode cL_law 777 = .ok (.laload, 1) := by decide +kernel
theorem dL_law_778 : decode cL_law 778 = .ok (.iload 7, 2) := by decide +kernel
theorem dL_law_780 : decode cL_law 780 = .ok (.i2l, 1) := by decide +kernel
theorem dL_law_781 : decode cL_law 781 = .ok (.lcmp, 1) := by decide +kernel
theorem dL_law_782 : decode cL_law 782 = .ok (.ifCond .eq 5, 3) := by decide +kernel
theorem dL_law_785 : decode cL_law 785 = .ok (.iconst 0, 1) := by decide +kernel
theorem dL_law_786 : decode cL_law 786 = .ok (.ireturn, 1) := by decide +kernel
theorem dL_law_787 : decode cL_law 787 = .ok (.goto 1942, 3) := by decide +kernel
theorem dL_law_790 : decode cL_law 790 = .ok (.aload_n 1, 1) := by decide +kernel
theorem dL_law_791 : decode cL_law 791 = .ok (.aload_n 0, 1) := by decide +kernel
theorem dL_law_792 : decode cL_law 792 = .ok (.iload 5, 2) := by decide +kernel
theorem dL_law_794 : decode cL_law 794 = .ok (.iconst 1, 1) := by decide +kernel
theorem dL_law_795 : decode cL_law 795 = .ok (.iadd, 1) := by decide +kernel
theorem dL_law_796 : decode cL_law 796 = .ok (.iaload, 1) := by decide +kernel
theorem dL_law_797 : decode cL_law 797 = .ok (.aload_n 3, 1) := by decide +kernel
theorem dL_law_798 : decode cL_law 798 = .ok (.invokestatic 167, 3) := by decide +kernel
theorem dL_law_801 : decode cL_law 801 = .ok (.istore 6, 2) := by decide +kernel
theorem dL_law_803 : decode cL_law 803 = .ok (.aload_n 2, 1) := by decide +kernel
theorem dL_law_804 : decode cL_law 804 = .ok (.aload_n 0, 1) := by decide +kernel
theorem dL_law_805 : decode cL_law 805 = .ok (.iload 5, 2) := by decide +kernel
theorem dL_law_807 : decode cL_law 807 = .ok (.iconst 1, 1) := by decide +kernel
theorem dL_law_808 : decode cL_law 808 = .ok (.iadd, 1) := by decide +kernel
theorem dL_law_809 : decode cL_law 809 = .ok (.iaload, 1) := by decide +kernel
theorem dL_law_810 : decode cL_law 810 = .ok (.invokevirtual 170, 3) := by decide +kernel
theorem dL_law_813 : decode cL_law 813 = .ok (.istore 7, 2) := by decide +kernel
theorem dL_law_815 : decode cL_law 815 = .ok (.aload_n 2, 1) := by decide +kernel
theorem dL_law_816 : decode cL_law 816 = .ok (.invokevirtual 139, 3) := by decide +kernel
theorem dL_law_819 : decode cL_law 819 = .ok (.iload 6, 2) := by decide +kernel
theorem dL_law_821 : decode cL_law 821 = .ok (.if_icmp .eq 5, 3) := by decide +kernel
theorem dL_law_824 : decode cL_law 824 = .ok (.iconst 0, 1) := by decide +kernel
theorem dL_law_825 : decode cL_law 825 = .ok (.ireturn, 1) := by decide +kernel
theorem dL_law_826 : decode cL_law 826 = .ok (.iload 6, 2) := by decide +kernel
theorem dL_law_828 : decode cL_law 828 = .ok (.ifCond .ne 15, 3) := by decide +kernel
theorem dL_law_831 : decode cL_law 831 = .ok (.aload_n 3, 1) := by decide +kernel
theorem dL_law_832 : decode cL_law 832 = .ok (.iconst 0, 1) := by decide +kernel
theorem dL_law_833 : decode cL_law 833 = .ok (.laload, 1) := by decide +kernel
theorem dL_law_834 : decode cL_law 834 = .ok (.iload 7, 2) := by decide +kernel
theorem dL_law_836 : decode cL_law 836 = .ok (.i2l, 1) := by decide +kernel
theorem dL_law_837 : decode cL_law 837 = .ok (.lcmp, 1) := by decide +kernel
theorem dL_law_838 : decode cL_law 838 = .ok (.ifCond .eq 5, 3) := by decide +kernel
theorem dL_law_841 : decode cL_law 841 = .ok (.iconst 0, 1) := by decide +kernel
theorem dL_law_842 : decode cL_law 842 = .ok (.ireturn, 1) := by decide +kernel
theorem dL_law_843 : decode cL_law 843 = .ok (.goto 1886, 3) := by decide +kernel
theorem dL_law_846 : decode cL_law 846 = .ok (.aload_n 1, 1) := by decide +kernel
theorem dL_law_847 : decode cL_law 847 = .ok (.aload_n 0, 1) := by decide +kernel
theorem dL_law_848 : decode cL_law 848 = .ok (.iload 5, 2) := by decide +kernel
theorem dL_law_850 : decode cL_law 850 = .ok (.iconst 1, 1) := by decide +kernel
theorem dL_law_851 : decode cL_law 851 = .ok (.iadd, 1) := by decide +kernel
theorem dL_law_852 : decode cL_law 852 = .ok (.iaload, 1) := by decide +kernel
theorem dL_law_853 : decode cL_law 853 = .ok (.aload_n 3, 1) := by decide +kernel
theorem dL_law_854 : decode cL_law 854 = .ok (.invokestatic 171, 3) := by decide +kernel
theorem dL_law_857 : decode cL_law 857 = .ok (.istore 6, 2) := by decide +kernel
theorem dL_law_859 : decode cL_law 859 = .ok (.aload_n 2, 1) := by decide +kernel
theorem dL_law_860 : decode cL_law 860 = .ok (.aload_n 0, 1) := by decide +kernel
theorem dL_law_861 : decode cL_law 861 = .ok (.iload 5, 2) := by decide +kernel
theorem dL_law_863 : decode cL_law 863 = .ok (.iconst 1, 1) := by decide +kernel
theorem dL_law_864 : decode cL_law 864 = .ok (.iadd, 1) := by decide +kernel
theorem dL_law_865 : decode cL_law 865 = .ok (.iaload, 1) := by decide +kernel
theorem dL_law_866 : decode cL_law 866 = .ok (.invokevirtual 173, 3) := by decide +kernel
theorem dL_law_869 : decode cL_law 869 = .ok (.istore 7, 2) := by decide +kernel
theorem dL_law_871 : decode cL_law 871 = .ok (.aload_n 2, 1) := by decide +kernel
theorem dL_law_872 : decode cL_law 872 = .ok (.invokevirtual 139, 3) := by decide +kernel
theorem dL_law_875 : decode cL_law 875 = .ok (.iload 6, 2) := by decide +kernel
theorem dL_law_877 : decode cL_law 877 = .ok (.if_icmp .eq 5, 3) := by decide +kernel
theorem dL_law_880 : decode cL_law 880 = .ok (.iconst 0, 1) := by decide +kernel
theorem dL_law_881 : decode cL_law 881 = .ok (.ireturn, 1) := by decide +kernel
theorem dL_law_882 : decode cL_law 882 = .ok (.iload 6, 2) := by decide +kernel
theorem dL_law_884 : decode cL_law 884 = .ok (.ifCond .ne 15, 3) := by decide +kernel
theorem dL_law_887 : decode cL_law 887 = .ok (.aload_n 3, 1) := by decide +kernel
theorem dL_law_888 : decode cL_law 888 = .ok (.iconst 0, 1) := by decide +kernel
theorem dL_law_889 : decode cL_law 889 = .ok (.laload, 1) := by decide +kernel
theorem dL_law_890 : decode cL_law 890 = .ok (.iload 7, 2) := by decide +kernel
theorem dL_law_892 : decode cL_law 892 = .ok (.i2l, 1) := by decide +kernel
theorem dL_law_893 : decode cL_law 893 = .ok (.lcmp, 1) := by decide +kernel
theorem dL_law_894 : decode cL_law 894 = .ok (.ifCond .eq 5, 3) := by decide +kernel
theorem dL_law_897 : decode cL_law 897 = .ok (.iconst 0, 1) := by decide +kernel
theorem dL_law_898 : decode cL_law 898 = .ok (.ireturn, 1) := by decide +kernel
theorem dL_law_899 : decode cL_law 899 = .ok (.goto 1830, 3) := by decide +kernel
theorem dL_law_902 : decode cL_law 902 = .ok (.aload_n 1, 1) := by decide +kernel
theorem dL_law_903 : decode cL_law 903 = .ok (.aload_n 0, 1) := by decide +kernel
theorem dL_law_904 : decode cL_law 904 = .ok (.iload 5, 2) := by decide +kernel
theorem dL_law_906 : decode cL_law 906 = .ok (.iconst 1, 1) := by decide +kernel
theorem dL_law_907 : decode cL_law 907 = .ok (.iadd, 1) := by decide +kernel
theorem dL_law_908 : decode cL_law 908 = .ok (.iaload, 1) := by decide +kernel
theorem dL_law_909 : decode cL_law 909 = .ok (.aload_n 0, 1) := by decide +kernel
theorem dL_law_910 : decode cL_law 910 = .ok (.iload 5, 2) := by decide +kernel
theorem dL_law_912 : decode cL_law 912 = .ok (.iconst 2, 1) := by decide +kernel
theorem dL_law_913 : decode cL_law 913 = .ok (.iadd, 1) := by decide +kernel
theorem dL_law_914 : decode cL_law 914 = .ok (.iaload, 1) := by decide +kernel
theorem dL_law_915 : decode cL_law 915 = .ok (.aload_n 0, 1) := by decide +kernel
theorem dL_law_916 : decode cL_law 916 = .ok (.iload 5, 2) := by decide +kernel
theorem dL_law_918 : decode cL_law 918 = .ok (.iconst 3, 1) := by decide +kernel
theorem dL_law_919 : decode cL_law 919 = .ok (.iadd, 1) := by decide +kernel
theorem dL_law_920 : decode cL_law 920 = .ok (.iaload, 1) := by decide +kernel
theorem dL_law_921 : decode cL_law 921 = .ok (.ifCond .eq 7, 3) := by decide +kernel
theorem dL_law_924 : decode cL_law 924 = .ok (.iconst 1, 1) := by decide +kernel
theorem dL_law_925 : decode cL_law 925 = .ok (.goto 4, 3) := by decide +kernel
theorem dL_law_928 : decode cL_law 928 = .ok (.iconst 0, 1) := by decide +kernel
theorem dL_law_929 : decode cL_law 929 = .ok (.aload_n 3, 1) := by decide +kernel
theorem dL_law_930 : decode cL_law 930 = .ok (.invokestatic 174, 3) := by decide +kernel
theorem dL_law_933 : decode cL_law 933 = .ok (.istore 6, 2) := by decide +kernel
theorem dL_law_935 : decode cL_law 935 = .ok (.aload_n 2, 1) := by decide +kernel
theorem dL_law_936 : decode cL_law 936 = .ok (.aload_n 0, 1) := by decide +kernel
theorem dL_law_937 : decode cL_law 937 = .ok (.iload 5, 2) := by decide +kernel
theorem dL_law_939 : decode cL_law 939 = .ok (.iconst 1, 1) := by decide +kernel
theorem dL_law_940 : decode cL_law 940 = .ok (.iadd, 1) := by decide +kernel
theorem dL_law_941 : decode cL_law 941 = .ok (.iaload, 1) := by decide +kernel
theorem dL_law_942 : decode cL_law 942 = .ok (.aload_n 0, 1) := by decide +kernel
theorem dL_law_943 : decode cL_law 943 = .ok (.iload 5, 2) := by decide +kernel
theorem dL_law_945 : decode cL_law 945 = .ok (.iconst 2, 1) := by decide +kernel
theorem dL_law_946 : decode cL_law 946 = .ok (.iadd, 1) := by decide +kernel
theorem dL_law_947 : decode cL_law 947 = .ok (.iaload, 1) := by decide +kernel
theorem dL_law_948 : decode cL_law 948 = .ok (.aload_n 0, 1) := by decide +kernel
theorem dL_law_949 : decode cL_law 949 = .ok (.iload 5, 2) := by decide +kernel
theorem dL_law_951 : decode cL_law 951 = .ok (.iconst 3, 1) := by decide +kernel
theorem dL_law_952 : decode cL_law 952 = .ok (.iadd, 1) := by decide +kernel
theorem dL_law_953 : decode cL_law 953 = .ok (.iaload, 1) := by decide +kernel
theorem dL_law_954 : decode cL_law 954 = .ok (.ifCond .eq 7, 3) := by decide +kernel
theorem dL_law_957 : decode cL_law 957 = .ok (.iconst 1, 1) := by decide +kernel
theorem dL_law_958 : decode cL_law 958 = .ok (.goto 4, 3) := by decide +kernel
theorem dL_law_961 : decode cL_law 961 = .ok (.iconst 0, 1) := by decide +kernel
theorem dL_law_962 : decode cL_law 962 = .ok (.invokevirtual 177, 3) := by decide +kernel
theorem dL_law_965 : decode cL_law 965 = .ok (.istore 7, 2) := by decide +kernel
theorem dL_law_967 : decode cL_law 967 = .ok (.aload_n 2, 1) := by decide +kernel
theorem dL_law_968 : decode cL_law 968 = .ok (.invokevirtual 139, 3) := by decide +kernel
theorem dL_law_971 : decode cL_law 971 = .ok (.iload 6, 2) := by decide +kernel
theorem dL_law_973 : decode cL_law 973 = .ok (.if_icmp .eq 5, 3) := by decide +kernel
theorem dL_law_976 : decode cL_law 976 = .ok (.iconst 0, 1) := by decide +kernel
theorem dL_law_977 : decode cL_law 977 = .ok (.ireturn, 1) := by decide +kernel
theorem dL_law_978 : decode cL_law 978 = .ok (.iload 6, 2) := by decide +kernel
theorem dL_law_980 : decode cL_law 980 = .ok (.ifCond .ne 15, 3) := by decide +kernel
theorem dL_law_983 : decode cL_law 983 = .ok (.aload_n 3, 1) := by decide +kernel
theorem dL_law_984 : decode cL_law 984 = .ok (.iconst 0, 1) := by decide +kernel
theorem dL_law_985 : decode cL_law 985 = .ok (.laload, 1) := by decide +kernel
theorem dL_law_986 : decode cL_law 986 = .ok (.iload 7, 2) := by decide +kernel
theorem dL_law_988 : decode cL_law 988 = .ok (.i2l, 1) := by decide +kernel
theorem dL_law_989 : decode cL_law 989 = .ok (.lcmp, 1) := by decide +kernel
theorem dL_law_990 : decode cL_law 990 = .ok (.ifCond .eq 5, 3) := by decide +kernel
theorem dL_law_993 : decode cL_law 993 = .ok (.iconst 0, 1) := by decide +kernel
theorem dL_law_994 : decode cL_law 994 = .ok (.ireturn, 1) := by decide +kernel
theorem dL_law_995 : decode cL_law 995 = .ok (.goto 1734, 3) := by decide +kernel
theorem dL_law_998 : decode cL_law 998 = .ok (.aload_n 1, 1) := by decide +kernel
theorem dL_law_999 : decode cL_law 999 = .ok (.aload_n 0, 1) := by decide +kernel
theorem dL_law_1000 : decode cL_law 1000 = .ok (.iload 5, 2) := by decide +kernel
theorem dL_law_1002 : decode cL_law 1002 = .ok (.iconst 1, 1) := by decide +kernel
theorem dL_law_1003 : decode cL_law 1003 = .ok (.iadd, 1) := by decide +kernel
theorem dL_law_1004 : decode cL_law 1004 = .ok (.iaload, 1) := by decide +kernel
theorem dL_law_1005 : decode cL_law 1005 = .ok (.aload_n 3, 1) := by decide +kernel
theorem dL_law_1006 : decode cL_law 1006 = .ok (.invokestatic 178, 3) := by decide +kernel
theorem dL_law_1009 : decode cL_law 1009 = .ok (.istore 6, 2) := by decide +kernel
theorem dL_law_1011 : decode cL_law 1011 = .ok (.aload_n 2, 1) := by decide +kernel
theorem dL_law_1012 : decode cL_law 1012 = .ok (.aload_n 0, 1) := by decide +kernel
theorem dL_law_1013 : decode cL_law 1013 = .ok (.iload 5, 2) := by decide +kernel
theorem dL_law_1015 : decode cL_law 1015 = .ok (.iconst 1, 1) := by decide +kernel
theorem dL_law_1016 : decode cL_law 1016 = .ok (.iadd, 1) := by decide +kernel
theorem dL_law_1017 : decode cL_law 1017 = .ok (.iaload, 1) := by decide +kernel
theorem dL_law_1018 : decode cL_law 1018 = .ok (.invokevirtual 180, 3) := by decide +kernel
theorem dL_law_1021 : decode cL_law 1021 = .ok (.istore 7, 2) := by decide +kernel
theorem dL_law_1023 : decode cL_law 1023 = .ok (.aload_n 2, 1) := by decide +kernel
theorem dL_law_1024 : decode cL_law 1024 = .ok (.invokevirtual 139, 3) := by decide +kernel
theorem dL_law_1027 : decode cL_law 1027 = .ok (.iload 6, 2) := by decide +kernel
theorem dL_law_1029 : decode cL_law 1029 = .ok (.if_icmp .eq 5, 3) := by decide +kernel
theorem dL_law_1032 : decode cL_law 1032 = .ok (.iconst 0, 1) := by decide +kernel
theorem dL_law_1033 : decode cL_law 1033 = .ok (.ireturn, 1) := by decide +kernel
theorem dL_law_1034 : decode cL_law 1034 = .ok (.iload 6, 2) := by decide +kernel
theorem dL_law_1036 : decode cL_law 1036 = .ok (.ifCond .ne 15, 3) := by decide +kernel
theorem dL_law_1039 : decode cL_law 1039 = .ok (.aload_n 3, 1) := by decide +kernel
theorem dL_law_1040 : decode cL_law 1040 = .ok (.iconst 0, 1) := by decide +kernel
theorem dL_law_1041 : decode cL_law 1041 = .ok (.laload, 1) := by decide +kernel
theorem dL_law_1042 : decode cL_law 1042 = .ok (.iload 7, 2) := by decide +kernel
theorem dL_law_1044 : decode cL_law 1044 = .ok (.i2l, 1) := by decide +kernel
theorem dL_law_1045 : decode cL_law 1045 = .ok (.lcmp, 1) := by decide +kernel
theorem dL_law_1046 : decode cL_law 1046 = .ok (.ifCond .eq 5, 3) := by decide +kernel
theorem dL_law_1049 : decode cL_law 1049 = .ok (.iconst 0, 1) := by decide +kernel
theorem dL_law_1050 : decode cL_law 1050 = .ok (.ireturn, 1) := by decide +kernel
theorem dL_law_1051 : decode cL_law 1051 = .ok (.goto 1678, 3) := by decide +kernel
theorem dL_law_1054 : decode cL_law 1054 = .ok (.aload_n 1, 1) := by decide +kernel
theorem dL_law_1055 : decode cL_law 1055 = .ok (.aload_n 0, 1) := by decide +kernel
theorem dL_law_1056 : decode cL_law 1056 = .ok (.iload 5, 2) := by decide +kernel
theorem dL_law_1058 : decode cL_law 1058 = .ok (.iconst 1, 1) := by decide +kernel
theorem dL_law_1059 : decode cL_law 1059 = .ok (.iadd, 1) := by decide +kernel
theorem dL_law_1060 : decode cL_law 1060 = .ok (.iaload, 1) := by decide +kernel
theorem dL_law_1061 : decode cL_law 1061 = .ok (.aload_n 0, 1) := by decide +kernel
theorem dL_law_1062 : decode cL_law 1062 = .ok (.iload 5, 2) := by decide +kernel
theorem dL_law_1064 : decode cL_law 1064 = .ok (.iconst 2, 1) := by decide +kernel
theorem dL_law_1065 : decode cL_law 1065 = .ok (.iadd, 1) := by decide +kernel
theorem dL_law_1066 : decode cL_law 1066 = .ok (.iaload, 1) := by decide +kernel
theorem dL_law_1067 : decode cL_law 1067 = .ok (.aload_n 3, 1) := by decide +kernel
theorem dL_law_1068 : decode cL_law 1068 = .ok (.invokestatic 181, 3) := by decide +kernel
theorem dL_law_1071 : decode cL_law 1071 = .ok (.istore 6, 2) := by decide +kernel
theorem dL_law_1073 : decode cL_law 1073 = .ok (.aload_n 2, 1) := by decide +kernel
theorem dL_law_1074 : decode cL_law 1074 = .ok (.aload_n 0, 1) := by decide +kernel
theorem dL_law_1075 : decode cL_law 1075 = .ok (.iload 5, 2) := by decide +kernel
theorem dL_law_1077 : decode cL_law 1077 = .ok (.iconst 1, 1) := by decide +kernel
theorem dL_law_1078 : decode cL_law 1078 = .ok (.iadd, 1) := by decide +kernel
theorem dL_law_1079 : decode cL_law 1079 = .ok (.iaload, 1) := by decide +kernel
theorem dL_law_1080 : decode cL_law 1080 = .ok (.aload_n 0, 1) := by decide +kernel
theorem dL_law_1081 : decode cL_law 1081 = .ok (.iload 5, 2) := by decide +kernel
theorem dL_law_1083 : decode cL_law 1083 = .ok (.iconst 2, 1) := by decide +kernel
theorem dL_law_1084 : decode cL_law 1084 = .ok (.iadd, 1) := by decide +kernel
theorem dL_law_1085 : decode cL_law 1085 = .ok (.iaload, 1) := by decide +kernel
theorem dL_law_1086 : decode cL_law 1086 = .ok (.invokevirtual 183, 3) := by decide +kernel
theorem dL_law_1089 : decode cL_law 1089 = .ok (.istore 7, 2) := by decide +kernel
theorem dL_law_1091 : decode cL_law 1091 = .ok (.aload_n 2, 1) := by decide +kernel
theorem dL_law_1092 : decode cL_law 1092 = .ok (.invokevirtual 139, 3) := by decide +kernel
theorem dL_law_1095 : decode cL_law 1095 = .ok (.iload 6, 2) := by decide +kernel
theorem dL_law_1097 : decode cL_law 1097 = .ok (.if_icmp .eq 5, 3) := by decide +kernel
theorem dL_law_1100 : decode cL_law 1100 = .ok (.iconst 0, 1) := by decide +kernel
theorem dL_law_1101 : decode cL_law 1101 = .ok (.ireturn, 1) := by decide +kernel
theorem dL_law_1102 : decode cL_law 1102 = .ok (.iload 6, 2) := by decide +kernel
theorem dL_law_1104 : decode cL_law 1104 = .ok (.ifCond .ne 22, 3) := by decide +kernel
theorem dL_law_1107 : decode cL_law 1107 = .ok (.aload_n 3, 1) := by decide +kernel
theorem dL_law_1108 : decode cL_law 1108 = .ok (.iconst 0, 1) := by decide +kernel
theorem dL_law_1109 : decode cL_law 1109 = .ok (.laload, 1) := by decide +kernel
theorem dL_law_1110 : decode cL_law 1110 = .ok (.iload 7, 2) := by decide +kernel
theorem dL_law_1112 : decode cL_law 1112 = .ok (.ifCond .eq 7, 3) := by decide +kernel
theorem dL_law_1115 : decode cL_law 1115 = .ok (.lconst 1, 1) := by decide +kernel
theorem dL_law_1116 : decode cL_law 1116 = .ok (.goto 4, 3) := by decide +kernel
theorem dL_law_1119 : decode cL_law 1119 = .ok (.lconst 0, 1) := by decide +kernel
theorem dL_law_1120 : decode cL_law 1120 = .ok (.lcmp, 1) := by decide +kernel
theorem dL_law_1121 : decode cL_law 1121 = .ok (.ifCond .eq 5, 3) := by decide +kernel
theorem dL_law_1124 : decode cL_law 1124 = .ok (.iconst 0, 1) := by decide +kernel
theorem dL_law_1125 : decode cL_law 1125 = .ok (.ireturn, 1) := by decide +kernel
theorem dL_law_1126 : decode cL_law 1126 = .ok (.goto 1603, 3) := by decide +kernel
theorem dL_law_1129 : decode cL_law 1129 = .ok (.aload_n 1, 1) := by decide +kernel
theorem dL_law_1130 : decode cL_law 1130 = .ok (.aload_n 0, 1) := by decide +kernel
theorem dL_law_1131 : decode cL_law 1131 = .ok (.iload 5, 2) := by decide +kernel
theorem dL_law_1133 : decode cL_law 1133 = .ok (.iconst 1, 1) := by decide +kernel
theorem dL_law_1134 : decode cL_law 1134 = .ok (.iadd, 1) := by decide +kernel
theorem dL_law_1135 : decode cL_law 1135 = .ok (.iaload, 1) := by decide +kernel
theorem dL_law_1136 : decode cL_law 1136 = .ok (.aload_n 0, 1) := by decide +kernel
theorem dL_law_1137 : decode cL_law 1137 = .ok (.iload 5, 2) := by decide +kernel
theorem dL_law_1139 : decode cL_law 1139 = .ok (.iconst 2, 1) := by decide +kernel
theorem dL_law_1140 : decode cL_law 1140 = .ok (.iadd, 1) := by decide +kernel
theorem dL_law_1141 : decode cL_law 1141 = .ok (.iaload, 1) := by decide +kernel
theorem dL_law_1142 : decode cL_law 1142 = .ok (.aload_n 0, 1) := by decide +kernel
theorem dL_law_1143 : decode cL_law 1143 = .ok (.iload 5, 2) := by decide +kernel
theorem dL_law_1145 : decode cL_law 1145 = .ok (.iconst 3, 1) := by decide +kernel
theorem dL_law_1146 : decode cL_law 1146 = .ok (.iadd, 1) := by decide +kernel
theorem dL_law_1147 : decode cL_law 1147 = .ok (.iaload, 1) := by decide +kernel
theorem dL_law_1148 : decode cL_law 1148 = .ok (.aload_n 0, 1) := by decide +kernel
theorem dL_law_1149 : decode cL_law 1149 = .ok (.iload 5, 2) := by decide +kernel
theorem dL_law_1151 : decode cL_law 1151 = .ok (.iconst 4, 1) := by decide +kernel
theorem dL_law_1152 : decode cL_law 1152 = .ok (.iadd, 1) := by decide +kernel
theorem dL_law_1153 : decode cL_law 1153 = .ok (.iaload, 1) := by decide +kernel
theorem dL_law_1154 : decode cL_law 1154 = .ok (.ifCond .eq 7, 3) := by decide +kernel
theorem dL_law_1157 : decode cL_law 1157 = .ok (.iconst 1, 1) := by decide +kernel
theorem dL_law_1158 : decode cL_law 1158 = .ok (.goto 4, 3) := by decide +kernel
theorem dL_law_1161 : decode cL_law 1161 = .ok (.iconst 0, 1) := by decide +kernel
theorem dL_law_1162 : decode cL_law 1162 = .ok (.aload_n 0, 1) := by decide +kernel
theorem dL_law_1163 : decode cL_law 1163 = .ok (.iload 5, 2) := by decide +kernel
theorem dL_law_1165 : decode cL_law 1165 = .ok (.iconst 5, 1) := by decide +kernel
theorem dL_law_1166 : decode cL_law 1166 = .ok (.iadd, 1) := by decide +kernel
theorem dL_law_1167 : decode cL_law 1167 = .ok (.iaload, 1) := by decide +kernel
theorem dL_law_1168 : decode cL_law 1168 = .ok (.aload_n 0, 1) := by decide +kernel
theorem dL_law_1169 : decode cL_law 1169 = .ok (.iload 5, 2) := by decide +kernel
theorem dL_law_1171 : decode cL_law 1171 = .ok (.bipush 6, 2) := by decide +kernel
theorem dL_law_1173 : decode cL_law 1173 = .ok (.iadd, 1) := by decide +kernel
theorem dL_law_1174 : decode cL_law 1174 = .ok (.iaload, 1) := by decide +kernel
theorem dL_law_1175 : decode cL_law 1175 = .ok (.ifCond .eq 7, 3) := by decide +kernel
theorem dL_law_1178 : decode cL_law 1178 = .ok (.iconst 1, 1) := by decide +kernel
theorem dL_law_1179 : decode cL_law 1179 = .ok (.goto 4, 3) := by decide +kernel
theorem dL_law_1182 : decode cL_law 1182 = .ok (.iconst 0, 1) := by decide +kernel
theorem dL_law_1183 : decode cL_law 1183 = .ok (.aload_n 3, 1) := by decide +kernel
theorem dL_law_1184 : decode cL_law 1184 = .ok (.invokestatic 184, 3) := by decide +kernel
theorem dL_law_1187 : decode cL_law 1187 = .ok (.istore 6, 2) := by decide +kernel
theorem dL_law_1189 : decode cL_law 1189 = .ok (.aload_n 2, 1) := by decide +kernel
theorem dL_law_1190 : decode cL_law 1190 = .ok (.aload_n 0, 1) := by decide +kernel
theorem dL_law_1191 : decode cL_law 1191 = .ok (.iload 5, 2) := by decide +kernel
theorem dL_law_1193 : decode cL_law 1193 = .ok (.iconst 1, 1) := by decide +kernel
theorem dL_law_1194 : decode cL_law 1194 = .ok (.iadd, 1) := by decide +kernel
theorem dL_law_1195 : decode cL_law 1195 = .ok (.iaload, 1) := by decide +kernel
theorem dL_law_1196 : decode cL_law 1196 = .ok (.aload_n 0, 1) := by decide +kernel
theorem dL_law_1197 : decode cL_law 1197 = .ok (.iload 5, 2) := by decide +kernel
theorem dL_law_1199 : decode cL_law 1199 = .ok (.iconst 2, 1) := by decide +kernel
theorem dL_law_1200 : decode cL_law 1200 = .ok (.iadd, 1) := by decide +kernel
theorem dL_law_1201 : decode cL_law 1201 = .ok (.iaload, 1) := by decide +kernel
theorem dL_law_1202 : decode cL_law 1202 = .ok (.aload_n 0, 1) := by decide +kernel
theorem dL_law_1203 : decode cL_law 1203 = .ok (.iload 5, 2) := by decide +kernel
theorem dL_law_1205 : decode cL_law 1205 = .ok (.iconst 3, 1) := by decide +kernel
theorem dL_law_1206 : decode cL_law 1206 = .ok (.iadd, 1) := by decide +kernel
theorem dL_law_1207 : decode cL_law 1207 = .ok (.iaload, 1) := by decide +kernel
theorem dL_law_1208 : decode cL_law 1208 = .ok (.aload_n 0, 1) := by decide +kernel
theorem dL_law_1209 : decode cL_law 1209 = .ok (.iload 5, 2) := by decide +kernel
theorem dL_law_1211 : decode cL_law 1211 = .ok (.iconst 4, 1) := by decide +kernel
theorem dL_law_1212 : decode cL_law 1212 = .ok (.iadd, 1) := by decide +kernel
theorem dL_law_1213 : decode cL_law 1213 = .ok (.iaload, 1) := by decide +kernel
theorem dL_law_1214 : decode cL_law 1214 = .ok (.ifCond .eq 7, 3) := by decide +kernel
theorem dL_law_1217 : decode cL_law 1217 = .ok (.iconst 1, 1) := by decide +kernel
theorem dL_law_1218 : decode cL_law 1218 = .ok (.goto 4, 3) := by decide +kernel
theorem dL_law_1221 : decode cL_law 1221 = .ok (.iconst 0, 1) := by decide +kernel
theorem dL_law_1222 : decode cL_law 1222 = .ok (.aload_n 0, 1) := by decide +kernel
theorem dL_law_1223 : decode cL_law 1223 = .ok (.iload 5, 2) := by decide +kernel
theorem dL_law_1225 : decode cL_law 1225 = .ok (.iconst 5, 1) := by decide +kernel
theorem dL_law_1226 : decode cL_law 1226 = .ok (.iadd, 1) := by decide +kernel
theorem dL_law_1227 : decode cL_law 1227 = .ok (.iaload, 1) := by decide +kernel
theorem dL_law_1228 : decode cL_law 1228 = .ok (.aload_n 0, 1) := by decide +kernel
theorem dL_law_1229 : decode cL_law 1229 = .ok (.iload 5, 2) := by decide +kernel
theorem dL_law_1231 : decode cL_law 1231 = .ok (.bipush 6, 2) := by decide +kernel
theorem dL_law_1233 : decode cL_law 1233 = .ok (.iadd, 1) := by decide +kernel
theorem dL_law_1234 : decode cL_law 1234 = .ok (.iaload, 1) := by decide +kernel
theorem dL_law_1235 : decode cL_law 1235 = .ok (.ifCond .eq 7, 3) := by decide +kernel
theorem dL_law_1238 : decode cL_law 1238 = .ok (.iconst 1, 1) := by decide +kernel
theorem dL_law_1239 : decode cL_law 1239 = .ok (.goto 4, 3) := by decide +kernel
theorem dL_law_1242 : decode cL_law 1242 = .ok (.iconst 0, 1) := by decide +kernel
theorem dL_law_1243 : decode cL_law 1243 = .ok (.invokevirtual 187, 3) := by decide +kernel
theorem dL_law_1246 : decode cL_law 1246 = .ok (.istore 7, 2) := by decide +kernel
theorem dL_law_1248 : decode cL_law 1248 = .ok (.aload_n 2, 1) := by decide +kernel
theorem dL_law_1249 : decode cL_law 1249 = .ok (.invokevirtual 139, 3) := by decide +kernel
theorem dL_law_1252 : decode cL_law 1252 = .ok (.iload 6, 2) := by decide +kernel
theorem dL_law_1254 : decode cL_law 1254 = .ok (.if_icmp .eq 5, 3) := by decide +kernel
theorem dL_law_1257 : decode cL_law 1257 = .ok (.iconst 0, 1) := by decide +kernel
theorem dL_law_1258 : decode cL_law 1258 = .ok (.ireturn, 1) := by decide +kernel
theorem dL_law_1259 : decode cL_law 1259 = .ok (.iload 6, 2) := by decide +kernel
theorem dL_law_1261 : decode cL_law 1261 = .ok (.ifCond .ne 15, 3) := by decide +kernel
theorem dL_law_1264 : decode cL_law 1264 = .ok (.aload_n 3, 1) := by decide +kernel
theorem dL_law_1265 : decode cL_law 1265 = .ok (.iconst 0, 1) := by decide +kernel
theorem dL_law_1266 : decode cL_law 1266 = .ok (.laload, 1) := by decide +kernel
theorem dL_law_1267 : decode cL_law 1267 = .ok (.iload 7, 2) := by decide +kernel
theorem dL_law_1269 : decode cL_law 1269 = .ok (.i2l, 1) := by decide +kernel
theorem dL_law_1270 : decode cL_law 1270 = .ok (.lcmp, 1) := by decide +kernel
theorem dL_law_1271 : decode cL_law 1271 = .ok (.ifCond .eq 5, 3) := by decide +kernel
theorem dL_law_1274 : decode cL_law 1274 = .ok (.iconst 0, 1) := by decide +kernel
theorem dL_law_1275 : decode cL_law 1275 = .ok (.ireturn, 1) := by decide +kernel
theorem dL_law_1276 : decode cL_law 1276 = .ok (.goto 1453, 3) := by decide +kernel
theorem dL_law_1279 : decode cL_law 1279 = .ok (.aload_n 1, 1) := by decide +kernel
theorem dL_law_1280 : decode cL_law 1280 = .ok (.aload_n 0, 1) := by decide +kernel
theorem dL_law_1281 : decode cL_law 1281 = .ok (.iload 5, 2) := by decide +kernel
theorem dL_law_1283 : decode cL_law 1283 = .ok (.iconst 1, 1) := by decide +kernel
theorem dL_law_1284 : decode cL_law 1284 = .ok (.iadd, 1) := by decide +kernel
theorem dL_law_1285 : decode cL_law 1285 = .ok (.iaload, 1) := by decide +kernel
theorem dL_law_1286 : decode cL_law 1286 = .ok (.aload_n 0, 1) := by decide +kernel
theorem dL_law_1287 : decode cL_law 1287 = .ok (.iload 5, 2) := by decide +kernel
theorem dL_law_1289 : decode cL_law 1289 = .ok (.iconst 2, 1) := by decide +kernel
theorem dL_law_1290 : decode cL_law 1290 = .ok (.iadd, 1) := by decide +kernel
theorem dL_law_1291 : decode cL_law 1291 = .ok (.iaload, 1) := by decide +kernel
theorem dL_law_1292 : decode cL_law 1292 = .ok (.aload_n 0, 1) := by decide +kernel
theorem dL_law_1293 : decode cL_law 1293 = .ok (.iload 5, 2) := by decide +kernel
theorem dL_law_1295 : decode cL_law 1295 = .ok (.iconst 3, 1) := by decide +kernel
theorem dL_law_1296 : decode cL_law 1296 = .ok (.iadd, 1) := by decide +kernel
theorem dL_law_1297 : decode cL_law 1297 = .ok (.iaload, 1) := by decide +kernel
theorem dL_law_1298 : decode cL_law 1298 = .ok (.ifCond .eq 7, 3) := by decide +kernel
theorem dL_law_1301 : decode cL_law 1301 = .ok (.iconst 1, 1) := by decide +kernel
theorem dL_law_1302 : decode cL_law 1302 = .ok (.goto 4, 3) := by decide +kernel
theorem dL_law_1305 : decode cL_law 1305 = .ok (.iconst 0, 1) := by decide +kernel
theorem dL_law_1306 : decode cL_law 1306 = .ok (.aload_n 0, 1) := by decide +kernel
theorem dL_law_1307 : decode cL_law 1307 = .ok (.iload 5, 2) := by decide +kernel
theorem dL_law_1309 : decode cL_law 1309 = .ok (.iconst 4, 1) := by decide +kernel
theorem dL_law_1310 : decode cL_law 1310 = .ok (.iadd, 1) := by decide +kernel
theorem dL_law_1311 : decode cL_law 1311 = .ok (.iaload, 1) := by decide +kernel
theorem dL_law_1312 : decode cL_law 1312 = .ok (.aload_n 0, 1) := by decide +kernel
theorem dL_law_1313 : decode cL_law 1313 = .ok (.iload 5, 2) := by decide +kernel
theorem dL_law_1315 : decode cL_law 1315 = .ok (.iconst 5, 1) := by decide +kernel
theorem dL_law_1316 : decode cL_law 1316 = .ok (.iadd, 1) := by decide +kernel
theorem dL_law_1317 : decode cL_law 1317 = .ok (.iaload, 1) := by decide +kernel
theorem dL_law_1318 : decode cL_law 1318 = .ok (.ifCond .eq 7, 3) := by decide +kernel
theorem dL_law_1321 : decode cL_law 1321 = .ok (.iconst 1, 1) := by decide +kernel
theorem dL_law_1322 : decode cL_law 1322 = .ok (.goto 4, 3) := by decide +kernel
theorem dL_law_1325 : decode cL_law 1325 = .ok (.iconst 0, 1) := by decide +kernel
theorem dL_law_1326 : decode cL_law 1326 = .ok (.aload_n 3, 1) := by decide +kernel
theorem dL_law_1327 : decode cL_law 1327 = .ok (.invokestatic 188, 3) := by decide +kernel
theorem dL_law_1330 : decode cL_law 1330 = .ok (.istore 6, 2) := by decide +kernel
theorem dL_law_1332 : decode cL_law 1332 = .ok (.aload_n 2, 1) := by decide +kernel
theorem dL_law_1333 : decode cL_law 1333 = .ok (.aload_n 0, 1) := by decide +kernel
theorem dL_law_1334 : decode cL_law 1334 = .ok (.iload 5, 2) := by decide +kernel
theorem dL_law_1336 : decode cL_law 1336 = .ok (.iconst 1, 1) := by decide +kernel
theorem dL_law_1337 : decode cL_law 1337 = .ok (.iadd, 1) := by decide +kernel
theorem dL_law_1338 : decode cL_law 1338 = .ok (.iaload, 1) := by decide +kernel
theorem dL_law_1339 : decode cL_law 1339 = .ok (.aload_n 0, 1) := by decide +kernel
theorem dL_law_1340 : decode cL_law 1340 = .ok (.iload 5, 2) := by decide +kernel
theorem dL_law_1342 : decode cL_law 1342 = .ok (.iconst 2, 1) := by decide +kernel
theorem dL_law_1343 : decode cL_law 1343 = .ok (.iadd, 1) := by decide +kernel
theorem dL_law_1344 : decode cL_law 1344 = .ok (.iaload, 1) := by decide +kernel
theorem dL_law_1345 : decode cL_law 1345 = .ok (.aload_n 0, 1) := by decide +kernel
theorem dL_law_1346 : decode cL_law 1346 = .ok (.iload 5, 2) := by decide +kernel
theorem dL_law_1348 : decode cL_law 1348 = .ok (.iconst 3, 1) := by decide +kernel
theorem dL_law_1349 : decode cL_law 1349 = .ok (.iadd, 1) := by decide +kernel
theorem dL_law_1350 : decode cL_law 1350 = .ok (.iaload, 1) := by decide +kernel
theorem dL_law_1351 : decode cL_law 1351 = .ok (.ifCond .eq 7, 3) := by decide +kernel
theorem dL_law_1354 : decode cL_law 1354 = .ok (.iconst 1, 1) := by decide +kernel
theorem dL_law_1355 : decode cL_law 1355 = .ok (.goto 4, 3) := by decide +kernel
theorem dL_law_1358 : decode cL_law 1358 = .ok (.iconst 0, 1) := by decide +kernel
theorem dL_law_1359 : decode cL_law 1359 = .ok (.aload_n 0, 1) := by decide +kernel
theorem dL_law_1360 : decode cL_law 1360 = .ok (.iload 5, 2) := by decide +kernel
theorem dL_law_1362 : decode cL_law 1362 = .ok (.iconst 4, 1) := by decide +kernel
theorem dL_law_1363 : decode cL_law 1363 = .ok (.iadd, 1) := by decide +kernel
theorem dL_law_1364 : decode cL_law 1364 = .ok (.iaload, 1) := by decide +kernel
theorem dL_law_1365 : decode cL_law 1365 = .ok (.aload_n 0, 1) := by decide +kernel
theorem dL_law_1366 : decode cL_law 1366 = .ok (.iload 5, 2) := by decide +kernel
theorem dL_law_1368 : decode cL_law 1368 = .ok (.iconst 5, 1) := by decide +kernel
theorem dL_law_1369 : decode cL_law 1369 = .ok (.iadd, 1) := by decide +kernel
theorem dL_law_1370 : decode cL_law 1370 = .ok (.iaload, 1) := by decide +kernel
theorem dL_law_1371 : decode cL_law 1371 = .ok (.ifCond .eq 7, 3) := by decide +kernel
theorem dL_law_1374 : decode cL_law 1374 = .ok (.iconst 1, 1) := by decide +kernel
theorem dL_law_1375 : decode cL_law 1375 = .ok (.goto 4, 3) := by decide +kernel
theorem dL_law_1378 : decode cL_law 1378 = .ok (.iconst 0, 1) := by decide +kernel
theorem dL_law_1379 : decode cL_law 1379 = .ok (.invokevirtual 191, 3) := by decide +kernel
theorem dL_law_1382 : decode cL_law 1382 = .ok (.istore 7, 2) := by decide +kernel
theorem dL_law_1384 : decode cL_law 1384 = .ok (.aload_n 2, 1) := by decide +kernel
theorem dL_law_1385 : decode cL_law 1385 = .ok (.invokevirtual 139, 3) := by decide +kernel
theorem dL_law_1388 : decode cL_law 1388 = .ok (.iload 6, 2) := by decide +kernel
theorem dL_law_1390 : decode cL_law 1390 = .ok (.if_icmp .eq 5, 3) := by decide +kernel
theorem dL_law_1393 : decode cL_law 1393 = .ok (.iconst 0, 1) := by decide +kernel
theorem dL_law_1394 : decode cL_law 1394 = .ok (.ireturn, 1) := by decide +kernel
theorem dL_law_1395 : decode cL_law 1395 = .ok (.iload 6, 2) := by decide +kernel
theorem dL_law_1397 : decode cL_law 1397 = .ok (.ifCond .ne 15, 3) := by decide +kernel
theorem dL_law_1400 : decode cL_law 1400 = .ok (.aload_n 3, 1) := by decide +kernel
theorem dL_law_1401 : decode cL_law 1401 = .ok (.iconst 0, 1) := by decide +kernel
theorem dL_law_1402 : decode cL_law 1402 = .ok (.laload, 1) := by decide +kernel
theorem dL_law_1403 : decode cL_law 1403 = .ok (.iload 7, 2) := by decide +kernel
theorem dL_law_1405 : decode cL_law 1405 = .ok (.i2l, 1) := by decide +kernel
theorem dL_law_1406 : decode cL_law 1406 = .ok (.lcmp, 1) := by decide +kernel
theorem dL_law_1407 : decode cL_law 1407 = .ok (.ifCond .eq 5, 3) := by decide +kernel
theorem dL_law_1410 : decode cL_law 1410 = .ok (.iconst 0, 1) := by decide +kernel
theorem dL_law_1411 : decode cL_law 1411 = .ok (.ireturn, 1) := by decide +kernel
theorem dL_law_1412 : decode cL_law 1412 = .ok (.goto 1317, 3) := by decide +kernel
theorem dL_law_1415 : decode cL_law 1415 = .ok (.aload_n 1, 1) := by decide +kernel
theorem dL_law_1416 : decode cL_law 1416 = .ok (.aload_n 0, 1) := by decide +kernel
theorem dL_law_1417 : decode cL_law 1417 = .ok (.iload 5, 2) := by decide +kernel
theorem dL_law_1419 : decode cL_law 1419 = .ok (.iconst 1, 1) := by decide +kernel
theorem dL_law_1420 : decode cL_law 1420 = .ok (.iadd, 1) := by decide +kernel
theorem dL_law_1421 : decode cL_law 1421 = .ok (.iaload, 1) := by decide +kernel
theorem dL_law_1422 : decode cL_law 1422 = .ok (.aload_n 0, 1) := by decide +kernel
theorem dL_law_1423 : decode cL_law 1423 = .ok (.iload 5, 2) := by decide +kernel
theorem dL_law_1425 : decode cL_law 1425 = .ok (.iconst 2, 1) := by decide +kernel
theorem dL_law_1426 : decode cL_law 1426 = .ok (.iadd, 1) := by decide +kernel
theorem dL_law_1427 : decode cL_law 1427 = .ok (.iaload, 1) := by decide +kernel
theorem dL_law_1428 : decode cL_law 1428 = .ok (.aload_n 0, 1) := by decide +kernel
theorem dL_law_1429 : decode cL_law 1429 = .ok (.iload 5, 2) := by decide +kernel
theorem dL_law_1431 : decode cL_law 1431 = .ok (.iconst 3, 1) := by decide +kernel
theorem dL_law_1432 : decode cL_law 1432 = .ok (.iadd, 1) := by decide +kernel
theorem dL_law_1433 : decode cL_law 1433 = .ok (.iaload, 1) := by decide +kernel
theorem dL_law_1434 : decode cL_law 1434 = .ok (.aload_n 3, 1) := by decide +kernel
theorem dL_law_1435 : decode cL_law 1435 = .ok (.invokestatic 192, 3) := by decide +kernel
theorem dL_law_1438 : decode cL_law 1438 = .ok (.istore 6, 2) := by decide +kernel
theorem dL_law_1440 : decode cL_law 1440 = .ok (.aload_n 2, 1) := by decide +kernel
theorem dL_law_1441 : decode cL_law 1441 = .ok (.aload_n 0, 1) := by decide +kernel
theorem dL_law_1442 : decode cL_law 1442 = .ok (.iload 5, 2) := by decide +kernel
theorem dL_law_1444 : decode cL_law 1444 = .ok (.iconst 1, 1) := by decide +kernel
theorem dL_law_1445 : decode cL_law 1445 = .ok (.iadd, 1) := by decide +kernel
theorem dL_law_1446 : decode cL_law 1446 = .ok (.iaload, 1) := by decide +kernel
theorem dL_law_1447 : decode cL_law 1447 = .ok (.aload_n 0, 1) := by decide +kernel
theorem dL_law_1448 : decode cL_law 1448 = .ok (.iload 5, 2) := by decide +kernel
theorem dL_law_1450 : decode cL_law 1450 = .ok (.iconst 2, 1) := by decide +kernel
theorem dL_law_1451 : decode cL_law 1451 = .ok (.iadd, 1) := by decide +kernel
theorem dL_law_1452 : decode cL_law 1452 = .ok (.iaload, 1) := by decide +kernel
theorem dL_law_1453 : decode cL_law 1453 = .ok (.aload_n 0, 1) := by decide +kernel
theorem dL_law_1454 : decode cL_law 1454 = .ok (.iload 5, 2) := by decide +kernel
theorem dL_law_1456 : decode cL_law 1456 = .ok (.iconst 3, 1) := by decide +kernel
end
section
theorem dL_law_1457 : decode cL_law 1457 = .ok (.iadd, 1) := by decide +kernel
theorem dL_law_1458 : decode cL_law 1458 = .ok (.iaload, 1) := by decide +kernel
theorem dL_law_1459 : decode cL_law 1459 = .ok (.invokevirtual 194, 3) := by decide +kernel
theorem dL_law_1462 : decode cL_law 1462 = .ok (.istore 7, 2) := by decide +kernel
theorem dL_law_1464 : decode cL_law 1464 = .ok (.aload_n 2, 1) := by decide +kernel
theorem dL_law_1465 : decode cL_law 1465 = .ok (.invokevirtual 139, 3) := by decide +kernel
theorem dL_law_1468 : decode cL_law 1468 = .ok (.iload 6, 2) := by decide +kernel
theorem dL_law_1470 : decode cL_law 1470 = .ok (.if_icmp .eq 5, 3) := by decide +kernel
theorem dL_law_1473 : decode cL_law 1473 = .ok (.iconst 0, 1) := by decide +kernel
theorem dL_law_1474 : decode cL_law 1474 = .ok (.ireturn, 1) := by decide +kernel
theorem dL_law_1475 : decode cL_law 1475 = .ok (.iload 6, 2) := by decide +kernel
theorem dL_law_1477 : decode cL_law 1477 = .ok (.ifCond .ne 15, 3) := by decide +kernel
theorem dL_law_1480 : decode cL_law 1480 = .ok (.aload_n 3, 1) := by decide +kernel
theorem dL_law_1481 : decode cL_law 1481 = .ok (.iconst 0, 1) := by decide +kernel
theorem dL_law_1482 : decode cL_law 1482 = .ok (.laload, 1) := by decide +kernel
theorem dL_law_1483 : decode cL_law 1483 = .ok (.iload 7, 2) := by decide +kernel
theorem dL_law_1485 : decode cL_law 1485 = .ok (.i2l, 1) := by decide +kernel
theorem dL_law_1486 : decode cL_law 1486 = .ok (.lcmp, 1) := by decide +kernel
theorem dL_law_1487 : decode cL_law 1487 = .ok (.ifCond .eq 5, 3) := by decide +kernel
theorem dL_law_1490 : decode cL_law 1490 = .ok (.iconst 0, 1) := by decide +kernel
theorem dL_law_1491 : decode cL_law 1491 = .ok (.ireturn, 1) := by decide +kernel
theorem dL_law_1492 : decode cL_law 1492 = .ok (.goto 1237, 3) := by decide +kernel
theorem dL_law_1495 : decode cL_law 1495 = .ok (.aload_n 1, 1) := by decide +kernel
theorem dL_law_1496 : decode cL_law 1496 = .ok (.aload_n 0, 1) := by decide +kernel
theorem dL_law_1497 : decode cL_law 1497 = .ok (.iload 5, 2) := by decide +kernel
theorem dL_law_1499 : decode cL_law 1499 = .ok (.iconst 1, 1) := by decide +kernel
theorem dL_law_1500 : decode cL_law 1500 = .ok (.iadd, 1) := by decide +kernel
theorem dL_law_1501 : decode cL_law 1501 = .ok (.iaload, 1) := by decide +kernel
theorem dL_law_1502 : decode cL_law 1502 = .ok (.aload_n 0, 1) := by decide +kernel
theorem dL_law_1503 : decode cL_law 1503 = .ok (.iload 5, 2) := by decide +kernel
theorem dL_law_1505 : decode cL_law 1505 = .ok (.iconst 2, 1) := by decide +kernel
theorem dL_law_1506 : decode cL_law 1506 = .ok (.iadd, 1) := by decide +kernel
theorem dL_law_1507 : decode cL_law 1507 = .ok (.iaload, 1) := by decide +kernel
theorem dL_law_1508 : decode cL_law 1508 = .ok (.aload_n 3, 1) := by decide +kernel
theorem dL_law_1509 : decode cL_law 1509 = .ok (.invokestatic 195, 3) := by decide +kernel
theorem dL_law_1512 : decode cL_law 1512 = .ok (.istore 6, 2) := by decide +kernel
theorem dL_law_1514 : decode cL_law 1514 = .ok (.aload_n 2, 1) := by decide +kernel
theorem dL_law_1515 : decode cL_law 1515 = .ok (.aload_n 0, 1) := by decide +kernel
theorem dL_law_1516 : decode cL_law 1516 = .ok (.iload 5, 2) := by decide +kernel
theorem dL_law_1518 : decode cL_law 1518 = .ok (.iconst 1, 1) := by decide +kernel
theorem dL_law_1519 : decode cL_law 1519 = .ok (.iadd, 1) := by decide +kernel
theorem dL_law_1520 : decode cL_law 1520 = .ok (.iaload, 1) := by decide +kernel
theorem dL_law_1521 : decode cL_law 1521 = .ok (.aload_n 0, 1) := by decide +kernel
theorem dL_law_1522 : decode cL_law 1522 = .ok (.iload 5, 2) := by decide +kernel
theorem dL_law_1524 : decode cL_law 1524 = .ok (.iconst 2, 1) := by decide +kernel
theorem dL_law_1525 : decode cL_law 1525 = .ok (.iadd, 1) := by decide +kernel
theorem dL_law_1526 : decode cL_law 1526 = .ok (.iaload, 1) := by decide +kernel
theorem dL_law_1527 : decode cL_law 1527 = .ok (.invokevirtual 197, 3) := by decide +kernel
theorem dL_law_1530 : decode cL_law 1530 = .ok (.istore 7, 2) := by decide +kernel
theorem dL_law_1532 : decode cL_law 1532 = .ok (.aload_n 2, 1) := by decide +kernel
theorem dL_law_1533 : decode cL_law 1533 = .ok (.invokevirtual 139, 3) := by decide +kernel
theorem dL_law_1536 : decode cL_law 1536 = .ok (.iload 6, 2) := by decide +kernel
theorem dL_law_1538 : decode cL_law 1538 = .ok (.if_icmp .eq 5, 3) := by decide +kernel
theorem dL_law_1541 : decode cL_law 1541 = .ok (.iconst 0, 1) := by decide +kernel
theorem dL_law_1542 : decode cL_law 1542 = .ok (.ireturn, 1) := by decide +kernel
theorem dL_law_1543 : decode cL_law 1543 = .ok (.iload 6, 2) := by decide +kernel
theorem dL_law_1545 : decode cL_law 1545 = .ok (.ifCond .ne 22, 3) := by decide +kernel
theorem dL_law_1548 : decode cL_law 1548 = .ok (.aload_n 3, 1) := by decide +kernel
theorem dL_law_1549 : decode cL_law 1549 = .ok (.iconst 0, 1) := by decide +kernel
theorem dL_law_1550 : decode cL_law 1550 = .ok (.laload, 1) := by decide +kernel
theorem dL_law_1551 : decode cL_law 1551 = .ok (.iload 7, 2) := by decide +kernel
theorem dL_law_1553 : decode cL_law 1553 = .ok (.ifCond .eq 7, 3) := by decide +kernel
theorem dL_law_1556 : decode cL_law 1556 = .ok (.lconst 1, 1) := by decide +kernel
theorem dL_law_1557 : decode cL_law 1557 = .ok (.goto 4, 3) := by decide +kernel
theorem dL_law_1560 : decode cL_law 1560 = .ok (.lconst 0, 1) := by decide +kernel
theorem dL_law_1561 : decode cL_law 1561 = .ok (.lcmp, 1) := by decide +kernel
theorem dL_law_1562 : decode cL_law 1562 = .ok (.ifCond .eq 5, 3) := by decide +kernel
theorem dL_law_1565 : decode cL_law 1565 = .ok (.iconst 0, 1) := by decide +kernel
theorem dL_law_1566 : decode cL_law 1566 = .ok (.ireturn, 1) := by decide +kernel
theorem dL_law_1567 : decode cL_law 1567 = .ok (.goto 1162, 3) := by decide +kernel
theorem dL_law_1570 : decode cL_law 1570 = .ok (.aload_n 1, 1) := by decide +kernel
theorem dL_law_1571 : decode cL_law 1571 = .ok (.aload_n 0, 1) := by decide +kernel
theorem dL_law_1572 : decode cL_law 1572 = .ok (.iload 5, 2) := by decide +kernel
theorem dL_law_1574 : decode cL_law 1574 = .ok (.iconst 1, 1) := by decide +kernel
theorem dL_law_1575 : decode cL_law 1575 = .ok (.iadd, 1) := by decide +kernel
theorem dL_law_1576 : decode cL_law 1576 = .ok (.iaload, 1) := by decide +kernel
theorem dL_law_1577 : decode cL_law 1577 = .ok (.aload_n 0, 1) := by decide +kernel
theorem dL_law_1578 : decode cL_law 1578 = .ok (.iload 5, 2) := by decide +kernel
theorem dL_law_1580 : decode cL_law 1580 = .ok (.iconst 2, 1) := by decide +kernel
theorem dL_law_1581 : decode cL_law 1581 = .ok (.iadd, 1) := by decide +kernel
theorem dL_law_1582 : decode cL_law 1582 = .ok (.iaload, 1) := by decide +kernel
theorem dL_law_1583 : decode cL_law 1583 = .ok (.aload_n 0, 1) := by decide +kernel
theorem dL_law_1584 : decode cL_law 1584 = .ok (.iload 5, 2) := by decide +kernel
theorem dL_law_1586 : decode cL_law 1586 = .ok (.iconst 3, 1) := by decide +kernel
theorem dL_law_1587 : decode cL_law 1587 = .ok (.iadd, 1) := by decide +kernel
theorem dL_law_1588 : decode cL_law 1588 = .ok (.iaload, 1) := by decide +kernel
theorem dL_law_1589 : decode cL_law 1589 = .ok (.i2c, 1) := by decide +kernel
theorem dL_law_1590 : decode cL_law 1590 = .ok (.aload_n 3, 1) := by decide +kernel
theorem dL_law_1591 : decode cL_law 1591 = .ok (.invokestatic 198, 3) := by decide +kernel
theorem dL_law_1594 : decode cL_law 1594 = .ok (.istore 6, 2) := by decide +kernel
theorem dL_law_1596 : decode cL_law 1596 = .ok (.aload_n 2, 1) := by decide +kernel
theorem dL_law_1597 : decode cL_law 1597 = .ok (.aload_n 0, 1) := by decide +kernel
theorem dL_law_1598 : decode cL_law 1598 = .ok (.iload 5, 2) := by decide +kernel
theorem dL_law_1600 : decode cL_law 1600 = .ok (.iconst 1, 1) := by decide +kernel
theorem dL_law_1601 : decode cL_law 1601 = .ok (.iadd, 1) := by decide +kernel
theorem dL_law_1602 : decode cL_law 1602 = .ok (.iaload, 1) := by decide +kernel
theorem dL_law_1603 : decode cL_law 1603 = .ok (.aload_n 0, 1) := by decide +kernel
theorem dL_law_1604 : decode cL_law 1604 = .ok (.iload 5, 2) := by decide +kernel
theorem dL_law_1606 : decode cL_law 1606 = .ok (.iconst 2, 1) := by decide +kernel
theorem dL_law_1607 : decode cL_law 1607 = .ok (.iadd, 1) := by decide +kernel
theorem dL_law_1608 : decode cL_law 1608 = .ok (.iaload, 1) := by decide +kernel
theorem dL_law_1609 : decode cL_law 1609 = .ok (.aload_n 0, 1) := by decide +kernel
theorem dL_law_1610 : decode cL_law 1610 = .ok (.iload 5, 2) := by decide +kernel
theorem dL_law_1612 : decode cL_law 1612 = .ok (.iconst 3, 1) := by decide +kernel
theorem dL_law_1613 : decode cL_law 1613 = .ok (.iadd, 1) := by decide +kernel
theorem dL_law_1614 : decode cL_law 1614 = .ok (.iaload, 1) := by decide +kernel
theorem dL_law_1615 : decode cL_law 1615 = .ok (.i2c, 1) := by decide +kernel
theorem dL_law_1616 : decode cL_law 1616 = .ok (.invokevirtual 200, 3) := by decide +kernel
theorem dL_law_1619 : decode cL_law 1619 = .ok (.istore 7, 2) := by decide +kernel
theorem dL_law_1621 : decode cL_law 1621 = .ok (.aload_n 2, 1) := by decide +kernel
theorem dL_law_1622 : decode cL_law 1622 = .ok (.invokevirtual 139, 3) := by decide +kernel
theorem dL_law_1625 : decode cL_law 1625 = .ok (.iload 6, 2) := by decide +kernel
theorem dL_law_1627 : decode cL_law 1627 = .ok (.if_icmp .eq 5, 3) := by decide +kernel
theorem dL_law_1630 : decode cL_law 1630 = .ok (.iconst 0, 1) := by decide +kernel
theorem dL_law_1631 : decode cL_law 1631 = .ok (.ireturn, 1) := by decide +kernel
theorem dL_law_1632 : decode cL_law 1632 = .ok (.iload 6, 2) := by decide +kernel
theorem dL_law_1634 : decode cL_law 1634 = .ok (.ifCond .ne 15, 3) := by decide +kernel
theorem dL_law_1637 : decode cL_law 1637 = .ok (.aload_n 3, 1) := by decide +kernel
theorem dL_law_1638 : decode cL_law 1638 = .ok (.iconst 0, 1) := by decide +kernel
theorem dL_law_1639 : decode cL_law 1639 = .ok (.laload, 1) := by decide +kernel
theorem dL_law_1640 : decode cL_law 1640 = .ok (.iload 7, 2) := by decide +kernel
theorem dL_law_1642 : decode cL_law 1642 = .ok (.i2l, 1) := by decide +kernel
theorem dL_law_1643 : decode cL_law 1643 = .ok (.lcmp, 1) := by decide +kernel
theorem dL_law_1644 : decode cL_law 1644 = .ok (.ifCond .eq 5, 3) := by decide +kernel
theorem dL_law_1647 : decode cL_law 1647 = .ok (.iconst 0, 1) := by decide +kernel
theorem dL_law_1648 : decode cL_law 1648 = .ok (.ireturn, 1) := by decide +kernel
theorem dL_law_1649 : decode cL_law 1649 = .ok (.goto 1080, 3) := by decide +kernel
theorem dL_law_1652 : decode cL_law 1652 = .ok (.aload_n 1, 1) := by decide +kernel
theorem dL_law_1653 : decode cL_law 1653 = .ok (.aload_n 0, 1) := by decide +kernel
theorem dL_law_1654 : decode cL_law 1654 = .ok (.iload 5, 2) := by decide +kernel
theorem dL_law_1656 : decode cL_law 1656 = .ok (.iconst 1, 1) := by decide +kernel
theorem dL_law_1657 : decode cL_law 1657 = .ok (.iadd, 1) := by decide +kernel
theorem dL_law_1658 : decode cL_law 1658 = .ok (.iaload, 1) := by decide +kernel
theorem dL_law_1659 : decode cL_law 1659 = .ok (.aload_n 0, 1) := by decide +kernel
theorem dL_law_1660 : decode cL_law 1660 = .ok (.iload 5, 2) := by decide +kernel
theorem dL_law_1662 : decode cL_law 1662 = .ok (.iconst 2, 1) := by decide +kernel
theorem dL_law_1663 : decode cL_law 1663 = .ok (.iadd, 1) := by decide +kernel
theorem dL_law_1664 : decode cL_law 1664 = .ok (.iaload, 1) := by decide +kernel
theorem dL_law_1665 : decode cL_law 1665 = .ok (.ifCond .eq 7, 3) := by decide +kernel
theorem dL_law_1668 : decode cL_law 1668 = .ok (.iconst 1, 1) := by decide +kernel
theorem dL_law_1669 : decode cL_law 1669 = .ok (.goto 4, 3) := by decide +kernel
theorem dL_law_1672 : decode cL_law 1672 = .ok (.iconst 0, 1) := by decide +kernel
theorem dL_law_1673 : decode cL_law 1673 = .ok (.aload_n 3, 1) := by decide +kernel
theorem dL_law_1674 : decode cL_law 1674 = .ok (.invokestatic 201, 3) := by decide +kernel
theorem dL_law_1677 : decode cL_law 1677 = .ok (.istore 6, 2) := by decide +kernel
theorem dL_law_1679 : decode cL_law 1679 = .ok (.aload_n 2, 1) := by decide +kernel
theorem dL_law_1680 : decode cL_law 1680 = .ok (.aload_n 0, 1) := by decide +kernel
theorem dL_law_1681 : decode cL_law 1681 = .ok (.iload 5, 2) := by decide +kernel
theorem dL_law_1683 : decode cL_law 1683 = .ok (.iconst 1, 1) := by decide +kernel
theorem dL_law_1684 : decode cL_law 1684 = .ok (.iadd, 1) := by decide +kernel
theorem dL_law_1685 : decode cL_law 1685 = .ok (.iaload, 1) := by decide +kernel
theorem dL_law_1686 : decode cL_law 1686 = .ok (.aload_n 0, 1) := by decide +kernel
theorem dL_law_1687 : decode cL_law 1687 = .ok (.iload 5, 2) := by decide +kernel
theorem dL_law_1689 : decode cL_law 1689 = .ok (.iconst 2, 1) := by decide +kernel
theorem dL_law_1690 : decode cL_law 1690 = .ok (.iadd, 1) := by decide +kernel
theorem dL_law_1691 : decode cL_law 1691 = .ok (.iaload, 1) := by decide +kernel
theorem dL_law_1692 : decode cL_law 1692 = .ok (.ifCond .eq 7, 3) := by decide +kernel
theorem dL_law_1695 : decode cL_law 1695 = .ok (.iconst 1, 1) := by decide +kernel
theorem dL_law_1696 : decode cL_law 1696 = .ok (.goto 4, 3) := by decide +kernel
theorem dL_law_1699 : decode cL_law 1699 = .ok (.iconst 0, 1) := by decide +kernel
theorem dL_law_1700 : decode cL_law 1700 = .ok (.invokevirtual 203, 3) := by decide +kernel
theorem dL_law_1703 : decode cL_law 1703 = .ok (.istore 7, 2) := by decide +kernel
theorem dL_law_1705 : decode cL_law 1705 = .ok (.aload_n 2, 1) := by decide +kernel
theorem dL_law_1706 : decode cL_law 1706 = .ok (.invokevirtual 139, 3) := by decide +kernel
theorem dL_law_1709 : decode cL_law 1709 = .ok (.iload 6, 2) := by decide +kernel
theorem dL_law_1711 : decode cL_law 1711 = .ok (.if_icmp .eq 5, 3) := by decide +kernel
theorem dL_law_1714 : decode cL_law 1714 = .ok (.iconst 0, 1) := by decide +kernel
theorem dL_law_1715 : decode cL_law 1715 = .ok (.ireturn, 1) := by decide +kernel
theorem dL_law_1716 : decode cL_law 1716 = .ok (.iload 6, 2) := by decide +kernel
theorem dL_law_1718 : decode cL_law 1718 = .ok (.ifCond .ne 15, 3) := by decide +kernel
theorem dL_law_1721 : decode cL_law 1721 = .ok (.aload_n 3, 1) := by decide +kernel
theorem dL_law_1722 : decode cL_law 1722 = .ok (.iconst 0, 1) := by decide +kernel
theorem dL_law_1723 : decode cL_law 1723 = .ok (.laload, 1) := by decide +kernel
theorem dL_law_1724 : decode cL_law 1724 = .ok (.iload 7, 2) := by decide +kernel
theorem dL_law_1726 : decode cL_law 1726 = .ok (.i2l, 1) := by decide +kernel
theorem dL_law_1727 : decode cL_law 1727 = .ok (.lcmp, 1) := by decide +kernel
theorem dL_law_1728 : decode cL_law 1728 = .ok (.ifCond .eq 5, 3) := by decide +kernel
theorem dL_law_1731 : decode cL_law 1731 = .ok (.iconst 0, 1) := by decide +kernel
theorem dL_law_1732 : decode cL_law 1732 = .ok (.ireturn, 1) := by decide +kernel
theorem dL_law_1733 : decode cL_law 1733 = .ok (.goto 996, 3) := by decide +kernel
theorem dL_law_1736 : decode cL_law 1736 = .ok (.aload_n 1, 1) := by decide +kernel
theorem dL_law_1737 : decode cL_law 1737 = .ok (.aload_n 0, 1) := by decide +kernel
theorem dL_law_1738 : decode cL_law 1738 = .ok (.iload 5, 2) := by decide +kernel
theorem dL_law_1740 : decode cL_law 1740 = .ok (.iconst 1, 1) := by decide +kernel
theorem dL_law_1741 : decode cL_law 1741 = .ok (.iadd, 1) := by decide +kernel
theorem dL_law_1742 : decode cL_law 1742 = .ok (.iaload, 1) := by decide +kernel
theorem dL_law_1743 : decode cL_law 1743 = .ok (.aload_n 0, 1) := by decide +kernel
theorem dL_law_1744 : decode cL_law 1744 = .ok (.iload 5, 2) := by decide +kernel
theorem dL_law_1746 : decode cL_law 1746 = .ok (.iconst 2, 1) := by decide +kernel
theorem dL_law_1747 : decode cL_law 1747 = .ok (.iadd, 1) := by decide +kernel
theorem dL_law_1748 : decode cL_law 1748 = .ok (.iaload, 1) := by decide +kernel
theorem dL_law_1749 : decode cL_law 1749 = .ok (.ifCond .eq 7, 3) := by decide +kernel
theorem dL_law_1752 : decode cL_law 1752 = .ok (.iconst 1, 1) := by decide +kernel
theorem dL_law_1753 : decode cL_law 1753 = .ok (.goto 4, 3) := by decide +kernel
theorem dL_law_1756 : decode cL_law 1756 = .ok (.iconst 0, 1) := by decide +kernel
theorem dL_law_1757 : decode cL_law 1757 = .ok (.aload_n 3, 1) := by decide +kernel
theorem dL_law_1758 : decode cL_law 1758 = .ok (.invokestatic 204, 3) := by decide +kernel
theorem dL_law_1761 : decode cL_law 1761 = .ok (.istore 6, 2) := by decide +kernel
theorem dL_law_1763 : decode cL_law 1763 = .ok (.aload_n 2, 1) := by decide +kernel
theorem dL_law_1764 : decode cL_law 1764 = .ok (.aload_n 0, 1) := by decide +kernel
theorem dL_law_1765 : decode cL_law 1765 = .ok (.iload 5, 2) := by decide +kernel
theorem dL_law_1767 : decode cL_law 1767 = .ok (.iconst 1, 1) := by decide +kernel
theorem dL_law_1768 : decode cL_law 1768 = .ok (.iadd, 1) := by decide +kernel
theorem dL_law_1769 : decode cL_law 1769 = .ok (.iaload, 1) := by decide +kernel
theorem dL_law_1770 : decode cL_law 1770 = .ok (.aload_n 0, 1) := by decide +kernel
theorem dL_law_1771 : decode cL_law 1771 = .ok (.iload 5, 2) := by decide +kernel
theorem dL_law_1773 : decode cL_law 1773 = .ok (.iconst 2, 1) := by decide +kernel
theorem dL_law_1774 : decode cL_law 1774 = .ok (.iadd, 1) := by decide +kernel
theorem dL_law_1775 : decode cL_law 1775 = .ok (.iaload, 1) := by decide +kernel
theorem dL_law_1776 : decode cL_law 1776 = .ok (.ifCond .eq 7, 3) := by decide +kernel
theorem dL_law_1779 : decode cL_law 1779 = .ok (.iconst 1, 1) := by decide +kernel
theorem dL_law_1780 : decode cL_law 1780 = .ok (.goto 4, 3) := by decide +kernel
theorem dL_law_1783 : decode cL_law 1783 = .ok (.iconst 0, 1) := by decide +kernel
theorem dL_law_1784 : decode cL_law 1784 = .ok (.invokevirtual 206, 3) := by decide +kernel
theorem dL_law_1787 : decode cL_law 1787 = .ok (.istore 7, 2) := by decide +kernel
theorem dL_law_1789 : decode cL_law 1789 = .ok (.aload_n 2, 1) := by decide +kernel
theorem dL_law_1790 : decode cL_law 1790 = .ok (.invokevirtual 139, 3) := by decide +kernel
theorem dL_law_1793 : decode cL_law 1793 = .ok (.iload 6, 2) := by decide +kernel
theorem dL_law_1795 : decode cL_law 1795 = .ok (.if_icmp .eq 5, 3) := by decide +kernel
theorem dL_law_1798 : decode cL_law 1798 = .ok (.iconst 0, 1) := by decide +kernel
theorem dL_law_1799 : decode cL_law 1799 = .ok (.ireturn, 1) := by decide +kernel
theorem dL_law_1800 : decode cL_law 1800 = .ok (.iload 6, 2) := by decide +kernel
theorem dL_law_1802 : decode cL_law 1802 = .ok (.ifCond .ne 15, 3) := by decide +kernel
theorem dL_law_1805 : decode cL_law 1805 = .ok (.aload_n 3, 1) := by decide +kernel
theorem dL_law_1806 : decode cL_law 1806 = .ok (.iconst 0, 1) := by decide +kernel
theorem dL_law_1807 : decode cL_law 1807 = .ok (.laload, 1) := by decide +kernel
theorem dL_law_1808 : decode cL_law 1808 = .ok (.iload 7, 2) := by decide +kernel
theorem dL_law_1810 : decode cL_law 1810 = .ok (.i2l, 1) := by decide +kernel
theorem dL_law_1811 : decode cL_law 1811 = .ok (.lcmp, 1) := by decide +kernel
theorem dL_law_1812 : decode cL_law 1812 = .ok (.ifCond .eq 5, 3) := by decide +kernel
theorem dL_law_1815 : decode cL_law 1815 = .ok (.iconst 0, 1) := by decide +kernel
theorem dL_law_1816 : decode cL_law 1816 = .ok (.ireturn, 1) := by decide +kernel
theorem dL_law_1817 : decode cL_law 1817 = .ok (.goto 912, 3) := by decide +kernel
theorem dL_law_1820 : decode cL_law 1820 = .ok (.aload_n 1, 1) := by decide +kernel
theorem dL_law_1821 : decode cL_law 1821 = .ok (.aload_n 0, 1) := by decide +kernel
theorem dL_law_1822 : decode cL_law 1822 = .ok (.iload 5, 2) := by decide +kernel
theorem dL_law_1824 : decode cL_law 1824 = .ok (.iconst 1, 1) := by decide +kernel
theorem dL_law_1825 : decode cL_law 1825 = .ok (.iadd, 1) := by decide +kernel
theorem dL_law_1826 : decode cL_law 1826 = .ok (.iaload, 1) := by decide +kernel
theorem dL_law_1827 : decode cL_law 1827 = .ok (.aload_n 3, 1) := by decide +kernel
theorem dL_law_1828 : decode cL_law 1828 = .ok (.invokestatic 207, 3) := by decide +kernel
theorem dL_law_1831 : decode cL_law 1831 = .ok (.istore 6, 2) := by decide +kernel
theorem dL_law_1833 : decode cL_law 1833 = .ok (.aload_n 2, 1) := by decide +kernel
theorem dL_law_1834 : decode cL_law 1834 = .ok (.aload_n 0, 1) := by decide +kernel
theorem dL_law_1835 : decode cL_law 1835 = .ok (.iload 5, 2) := by decide +kernel
theorem dL_law_1837 : decode cL_law 1837 = .ok (.iconst 1, 1) := by decide +kernel
theorem dL_law_1838 : decode cL_law 1838 = .ok (.iadd, 1) := by decide +kernel
theorem dL_law_1839 : decode cL_law 1839 = .ok (.iaload, 1) := by decide +kernel
theorem dL_law_1840 : decode cL_law 1840 = .ok (.invokevirtual 209, 3) := by decide +kernel
theorem dL_law_1843 : decode cL_law 1843 = .ok (.istore 7, 2) := by decide +kernel
theorem dL_law_1845 : decode cL_law 1845 = .ok (.aload_n 2, 1) := by decide +kernel
theorem dL_law_1846 : decode cL_law 1846 = .ok (.invokevirtual 139, 3) := by decide +kernel
theorem dL_law_1849 : decode cL_law 1849 = .ok (.iload 6, 2) := by decide +kernel
theorem dL_law_1851 : decode cL_law 1851 = .ok (.if_icmp .eq 5, 3) := by decide +kernel
theorem dL_law_1854 : decode cL_law 1854 = .ok (.iconst 0, 1) := by decide +kernel
theorem dL_law_1855 : decode cL_law 1855 = .ok (.ireturn, 1) := by decide +kernel
theorem dL_law_1856 : decode cL_law 1856 = .ok (.iload 6, 2) := by decide +kernel
theorem dL_law_1858 : decode cL_law 1858 = .ok (.ifCond .ne 15, 3) := by decide +kernel
theorem dL_law_1861 : decode cL_law 1861 = .ok (.aload_n 3, 1) := by decide +kernel
theorem dL_law_1862 : decode cL_law 1862 = .ok (.iconst 0, 1) := by decide +kernel
theorem dL_law_1863 : decode cL_law 1863 = .ok (.laload, 1) := by decide +kernel
theorem dL_law_1864 : decode cL_law 1864 = .ok (.iload 7, 2) := by decide +kernel
theorem dL_law_1866 : decode cL_law 1866 = .ok (.i2l, 1) := by decide +kernel
theorem dL_law_1867 : decode cL_law 1867 = .ok (.lcmp, 1) := by decide +kernel
theorem dL_law_1868 : decode cL_law 1868 = .ok (.ifCond .eq 5, 3) := by decide +kernel
theorem dL_law_1871 : decode cL_law 1871 = .ok (.iconst 0, 1) := by decide +kernel
theorem dL_law_1872 : decode cL_law 1872 = .ok (.ireturn, 1) := by decide +kernel
theorem dL_law_1873 : decode cL_law 1873 = .ok (.goto 856, 3) := by decide +kernel
theorem dL_law_1876 : decode cL_law 1876 = .ok (.aload_n 1, 1) := by decide +kernel
theorem dL_law_1877 : decode cL_law 1877 = .ok (.aload_n 0, 1) := by decide +kernel
theorem dL_law_1878 : decode cL_law 1878 = .ok (.iload 5, 2) := by decide +kernel
theorem dL_law_1880 : decode cL_law 1880 = .ok (.iconst 1, 1) := by decide +kernel
theorem dL_law_1881 : decode cL_law 1881 = .ok (.iadd, 1) := by decide +kernel
theorem dL_law_1882 : decode cL_law 1882 = .ok (.iaload, 1) := by decide +kernel
theorem dL_law_1883 : decode cL_law 1883 = .ok (.aload_n 3, 1) := by decide +kernel
theorem dL_law_1884 : decode cL_law 1884 = .ok (.invokestatic 210, 3) := by decide +kernel
theorem dL_law_1887 : decode cL_law 1887 = .ok (.istore 6, 2) := by decide +kernel
theorem dL_law_1889 : decode cL_law 1889 = .ok (.aload_n 2, 1) := by decide +kernel
theorem dL_law_1890 : decode cL_law 1890 = .ok (.aload_n 0, 1) := by decide +kernel
theorem dL_law_1891 : decode cL_law 1891 = .ok (.iload 5, 2) := by decide +kernel
theorem dL_law_1893 : decode cL_law 1893 = .ok (.iconst 1, 1) := by decide +kernel
theorem dL_law_1894 : decode cL_law 1894 = .ok (.iadd, 1) := by decide +kernel
theorem dL_law_1895 : decode cL_law 1895 = .ok (.iaload, 1) := by decide +kernel
theorem dL_law_1896 : decode cL_law 1896 = .ok (.invokevirtual 212, 3) := by decide +kernel
theorem dL_law_1899 : decode cL_law 1899 = .ok (.istore 7, 2) := by decide +kernel
theorem dL_law_1901 : decode cL_law 1901 = .ok (.aload_n 2, 1) := by decide +kernel
theorem dL_law_1902 : decode cL_law 1902 = .ok (.invokevirtual 139, 3) := by decide +kernel
theorem dL_law_1905 : decode cL_law 1905 = .ok (.iload 6, 2) := by decide +kernel
theorem dL_law_1907 : decode cL_law 1907 = .ok (.if_icmp .eq 5, 3) := by decide +kernel
theorem dL_law_1910 : decode cL_law 1910 = .ok (.iconst 0, 1) := by decide +kernel
theorem dL_law_1911 : decode cL_law 1911 = .ok (.ireturn, 1) := by decide +kernel
theorem dL_law_1912 : decode cL_law 1912 = .ok (.iload 6, 2) := by decide +kernel
theorem dL_law_1914 : decode cL_law 1914 = .ok (.ifCond .ne 15, 3) := by decide +kernel
theorem dL_law_1917 : decode cL_law 1917 = .ok (.aload_n 3, 1) := by decide +kernel
theorem dL_law_1918 : decode cL_law 1918 = .ok (.iconst 0, 1) := by decide +kernel
theorem dL_law_1919 : decode cL_law 1919 = .ok (.laload, 1) := by decide +kernel
theorem dL_law_1920 : decode cL_law 1920 = .ok (.iload 7, 2) := by decide +kernel
theorem dL_law_1922 : decode cL_law 1922 = .ok (.i2l, 1) := by decide +kernel
theorem dL_law_1923 : decode cL_law 1923 = .ok (.lcmp, 1) := by decide +kernel
theorem dL_law_1924 : decode cL_law 1924 = .ok (.ifCond .eq 5, 3) := by decide +kernel
theorem dL_law_1927 : decode cL_law 1927 = .ok (.iconst 0, 1) := by decide +kernel
theorem dL_law_1928 : decode cL_law 1928 = .ok (.ireturn, 1) := by decide +kernel
theorem dL_law_1929 : decode cL_law 1929 = .ok (.goto 800, 3) := by decide +kernel
theorem dL_law_1932 : decode cL_law 1932 = .ok (.aload_n 1, 1) := by decide +kernel
theorem dL_law_1933 : decode cL_law 1933 = .ok (.aload_n 0, 1) := by decide +kernel
theorem dL_law_1934 : decode cL_law 1934 = .ok (.iload 5, 2) := by decide +kernel
theorem dL_law_1936 : decode cL_law 1936 = .ok (.iconst 1, 1) := by decide +kernel
theorem dL_law_1937 : decode cL_law 1937 = .ok (.iadd, 1) := by decide +kernel
theorem dL_law_1938 : decode cL_law 1938 = .ok (.iaload, 1) := by decide +kernel
theorem dL_law_1939 : decode cL_law 1939 = .ok (.aload_n 0, 1) := by decide +kernel
theorem dL_law_1940 : decode cL_law 1940 = .ok (.iload 5, 2) := by decide +kernel
theorem dL_law_1942 : decode cL_law 1942 = .ok (.iconst 2, 1) := by decide +kernel
theorem dL_law_1943 : decode cL_law 1943 = .ok (.iadd, 1) := by decide +kernel
theorem dL_law_1944 : decode cL_law 1944 = .ok (.iaload, 1) := by decide +kernel
theorem dL_law_1945 : decode cL_law 1945 = .ok (.aload_n 3, 1) := by decide +kernel
theorem dL_law_1946 : decode cL_law 1946 = .ok (.invokestatic 213, 3) := by decide +kernel
theorem dL_law_1949 : decode cL_law 1949 = .ok (.istore 6, 2) := by decide +kernel
theorem dL_law_1951 : decode cL_law 1951 = .ok (.aload_n 2, 1) := by decide +kernel
theorem dL_law_1952 : decode cL_law 1952 = .ok (.aload_n 0, 1) := by decide +kernel
theorem dL_law_1953 : decode cL_law 1953 = .ok (.iload 5, 2) := by decide +kernel
theorem dL_law_1955 : decode cL_law 1955 = .ok (.iconst 1, 1) := by decide +kernel
theorem dL_law_1956 : decode cL_law 1956 = .ok (.iadd, 1) := by decide +kernel
theorem dL_law_1957 : decode cL_law 1957 = .ok (.iaload, 1) := by decide +kernel
theorem dL_law_1958 : decode cL_law 1958 = .ok (.aload_n 0, 1) := by decide +kernel
theorem dL_law_1959 : decode cL_law 1959 = .ok (.iload 5, 2) := by decide +kernel
theorem dL_law_1961 : decode cL_law 1961 = .ok (.iconst 2, 1) := by decide +kernel
theorem dL_law_1962 : decode cL_law 1962 = .ok (.iadd, 1) := by decide +kernel
theorem dL_law_1963 : decode cL_law 1963 = .ok (.iaload, 1) := by decide +kernel
theorem dL_law_1964 : decode cL_law 1964 = .ok (.invokevirtual 215, 3) := by decide +kernel
theorem dL_law_1967 : decode cL_law 1967 = .ok (.istore 7, 2) := by decide +kernel
theorem dL_law_1969 : decode cL_law 1969 = .ok (.aload_n 2, 1) := by decide +kernel
theorem dL_law_1970 : decode cL_law 1970 = .ok (.invokevirtual 139, 3) := by decide +kernel
theorem dL_law_1973 : decode cL_law 1973 = .ok (.iload 6, 2) := by decide +kernel
theorem dL_law_1975 : decode cL_law 1975 = .ok (.if_icmp .eq 5, 3) := by decide +kernel
theorem dL_law_1978 : decode cL_law 1978 = .ok (.iconst 0, 1) := by decide +kernel
theorem dL_law_1979 : decode cL_law 1979 = .ok (.ireturn, 1) := by decide +kernel
theorem dL_law_1980 : decode cL_law 1980 = .ok (.iload 6, 2) := by decide +kernel
theorem dL_law_1982 : decode cL_law 1982 = .ok (.ifCond .ne 22, 3) := by decide +kernel
theorem dL_law_1985 : decode cL_law 1985 = .ok (.aload_n 3, 1) := by decide +kernel
theorem dL_law_1986 : decode cL_law 1986 = .ok (.iconst 0, 1) := by decide +kernel
theorem dL_law_1987 : decode cL_law 1987 = .ok (.laload, 1) := by decide +kernel
theorem dL_law_1988 : decode cL_law 1988 = .ok (.iload 7, 2) := by decide +kernel
theorem dL_law_1990 : decode cL_law 1990 = .ok (.ifCond .eq 7, 3) := by decide +kernel
theorem dL_law_1993 : decode cL_law 1993 = .ok (.lconst 1, 1) := by decide +kernel
theorem dL_law_1994 : decode cL_law 1994 = .ok (.goto 4, 3) := by decide +kernel
theorem dL_law_1997 : decode cL_law 1997 = .ok (.lconst 0, 1) := by decide +kernel
theorem dL_law_1998 : decode cL_law 1998 = .ok (.lcmp, 1) := by decide +kernel
theorem dL_law_1999 : decode cL_law 1999 = .ok (.ifCond .eq 5, 3) := by decide +kernel
theorem dL_law_2002 : decode cL_law 2002 = .ok (.iconst 0, 1) := by decide +kernel
theorem dL_law_2003 : decode cL_law 2003 = .ok (.ireturn, 1) := by decide +kernel
theorem dL_law_2004 : decode cL_law 2004 = .ok (.goto 725, 3) := by decide +kernel
theorem dL_law_2007 : decode cL_law 2007 = .ok (.aload_n 1, 1) := by decide +kernel
theorem dL_law_2008 : decode cL_law 2008 = .ok (.aload_n 0, 1) := by decide +kernel
theorem dL_law_2009 : decode cL_law 2009 = .ok (.iload 5, 2) := by decide +kernel
theorem dL_law_2011 : decode cL_law 2011 = .ok (.iconst 1, 1) := by decide +kernel
theorem dL_law_2012 : decode cL_law 2012 = .ok (.iadd, 1) := by decide +kernel
theorem dL_law_2013 : decode cL_law 2013 = .ok (.iaload, 1) := by decide +kernel
theorem dL_law_2014 : decode cL_law 2014 = .ok (.aload_n 0, 1) := by decide +kernel
theorem dL_law_2015 : decode cL_law 2015 = .ok (.iload 5, 2) := by decide +kernel
theorem dL_law_2017 : decode cL_law 2017 = .ok (.iconst 2, 1) := by decide +kernel
theorem dL_law_2018 : decode cL_law 2018 = .ok (.iadd, 1) := by decide +kernel
theorem dL_law_2019 : decode cL_law 2019 = .ok (.iaload, 1) := by decide +kernel
theorem dL_law_2020 : decode cL_law 2020 = .ok (.i2c, 1) := by decide +kernel
theorem dL_law_2021 : decode cL_law 2021 = .ok (.aload_n 0, 1) := by decide +kernel
theorem dL_law_2022 : decode cL_law 2022 = .ok (.iload 5, 2) := by decide +kernel
theorem dL_law_2024 : decode cL_law 2024 = .ok (.iconst 3, 1) := by decide +kernel
theorem dL_law_2025 : decode cL_law 2025 = .ok (.iadd, 1) := by decide +kernel
theorem dL_law_2026 : decode cL_law 2026 = .ok (.iaload, 1) := by decide +kernel
theorem dL_law_2027 : decode cL_law 2027 = .ok (.aload_n 0, 1) := by decide +kernel
theorem dL_law_2028 : decode cL_law 2028 = .ok (.iload 5, 2) := by decide +kernel
theorem dL_law_2030 : decode cL_law 2030 = .ok (.iconst 4, 1) := by decide +kernel
theorem dL_law_2031 : decode cL_law 2031 = .ok (.iadd, 1) := by decide +kernel
theorem dL_law_2032 : decode cL_law 2032 = .ok (.iaload, 1) := by decide +kernel
theorem dL_law_2033 : decode cL_law 2033 = .ok (.aload_n 3, 1) := by decide +kernel
theorem dL_law_2034 : decode cL_law 2034 = .ok (.invokestatic 216, 3) := by decide +kernel
theorem dL_law_2037 : decode cL_law 2037 = .ok (.istore 6, 2) := by decide +kernel
theorem dL_law_2039 : decode cL_law 2039 = .ok (.aload_n 2, 1) := by decide +kernel
theorem dL_law_2040 : decode cL_law 2040 = .ok (.aload_n 0, 1) := by decide +kernel
theorem dL_law_2041 : decode cL_law 2041 = .ok (.iload 5, 2) := by decide +kernel
theorem dL_law_2043 : decode cL_law 2043 = .ok (.iconst 1, 1) := by decide +kernel
theorem dL_law_2044 : decode cL_law 2044 = .ok (.iadd, 1) := by decide +kernel
theorem dL_law_2045 : decode cL_law 2045 = .ok (.iaload, 1) := by decide +kernel
theorem dL_law_2046 : decode cL_law 2046 = .ok (.aload_n 0, 1) := by decide +kernel
theorem dL_law_2047 : decode cL_law 2047 = .ok (.iload 5, 2) := by decide +kernel
theorem dL_law_2049 : decode cL_law 2049 = .ok (.iconst 2, 1) := by decide +kernel
theorem dL_law_2050 : decode cL_law 2050 = .ok (.iadd, 1) := by decide +kernel
theorem dL_law_2051 : decode cL_law 2051 = .ok (.iaload, 1) := by decide +kernel
theorem dL_law_2052 : decode cL_law 2052 = .ok (.i2c, 1) := by decide +kernel
theorem dL_law_2053 : decode cL_law 2053 = .ok (.aload_n 0, 1) := by decide +kernel
theorem dL_law_2054 : decode cL_law 2054 = .ok (.iload 5, 2) := by decide +kernel
theorem dL_law_2056 : decode cL_law 2056 = .ok (.iconst 3, 1) := by decide +kernel
theorem dL_law_2057 : decode cL_law 2057 = .ok (.iadd, 1) := by decide +kernel
theorem dL_law_2058 : decode cL_law 2058 = .ok (.iaload, 1) := by decide +kernel
theorem dL_law_2059 : decode cL_law 2059 = .ok (.aload_n 0, 1) := by decide +kernel
theorem dL_law_2060 : decode cL_law 2060 = .ok (.iload 5, 2) := by decide +kernel
theorem dL_law_2062 : decode cL_law 2062 = .ok (.iconst 4, 1) := by decide +kernel
theorem dL_law_2063 : decode cL_law 2063 = .ok (.iadd, 1) := by decide +kernel
theorem dL_law_2064 : decode cL_law 2064 = .ok (.iaload, 1) := by decide +kernel
theorem dL_law_2065 : decode cL_law 2065 = .ok (.invokevirtual 219, 3) := by decide +kernel
theorem dL_law_2068 : decode cL_law 2068 = .ok (.istore 7, 2) := by decide +kernel
theorem dL_law_2070 : decode cL_law 2070 = .ok (.aload_n 2, 1) := by decide +kernel
theorem dL_law_2071 : decode cL_law 2071 = .ok (.invokevirtual 139, 3) := by decide +kernel
theorem dL_law_2074 : decode cL_law 2074 = .ok (.iload 6, 2) := by decide +kernel
theorem dL_law_2076 : decode cL_law 2076 = .ok (.if_icmp .eq 5, 3) := by decide +kernel
theorem dL_law_2079 : decode cL_law 2079 = .ok (.iconst 0, 1) := by decide +kernel
theorem dL_law_2080 : decode cL_law 2080 = .ok (.ireturn, 1) := by decide +kernel
theorem dL_law_2081 : decode cL_law 2081 = .ok (.iload 6, 2) := by decide +kernel
theorem dL_law_2083 : decode cL_law 2083 = .ok (.ifCond .ne 15, 3) := by decide +kernel
theorem dL_law_2086 : decode cL_law 2086 = .ok (.aload_n 3, 1) := by decide +kernel
theorem dL_law_2087 : decode cL_law 2087 = .ok (.iconst 0, 1) := by decide +kernel
theorem dL_law_2088 : decode cL_law 2088 = .ok (.laload, 1) := by decide +kernel
theorem dL_law_2089 : decode cL_law 2089 = .ok (.iload 7, 2) := by decide +kernel
theorem dL_law_2091 : decode cL_law 2091 = .ok (.i2l, 1) := by decide +kernel
theorem dL_law_2092 : decode cL_law 2092 = .ok (.lcmp, 1) := by decide +kernel
theorem dL_law_2093 : decode cL_law 2093 = .ok (.ifCond .eq 5, 3) := by decide +kernel
theorem dL_law_2096 : decode cL_law 2096 = .ok (.iconst 0, 1) := by decide +kernel
theorem dL_law_2097 : decode cL_law 2097 = .ok (.ireturn, 1) := by decide +kernel
theorem dL_law_2098 : decode cL_law 2098 = .ok (.goto 631, 3) := by decide +kernel
theorem dL_law_2101 : decode cL_law 2101 = .ok (.aload_n 1, 1) := by decide +kernel
theorem dL_law_2102 : decode cL_law 2102 = .ok (.aload_n 0, 1) := by decide +kernel
theorem dL_law_2103 : decode cL_law 2103 = .ok (.iload 5, 2) := by decide +kernel
theorem dL_law_2105 : decode cL_law 2105 = .ok (.iconst 1, 1) := by decide +kernel
theorem dL_law_2106 : decode cL_law 2106 = .ok (.iadd, 1) := by decide +kernel
theorem dL_law_2107 : decode cL_law 2107 = .ok (.iaload, 1) := by decide +kernel
theorem dL_law_2108 : decode cL_law 2108 = .ok (.aload_n 3, 1) := by decide +kernel
theorem dL_law_2109 : decode cL_law 2109 = .ok (.invokestatic 220, 3) := by decide +kernel
theorem dL_law_2112 : decode cL_law 2112 = .ok (.istore 6, 2) := by decide +kernel
theorem dL_law_2114 : decode cL_law 2114 = .ok (.aload_n 2, 1) := by decide +kernel
theorem dL_law_2115 : decode cL_law 2115 = .ok (.aload_n 0, 1) := by decide +kernel
theorem dL_law_2116 : decode cL_law 2116 = .ok (.iload 5, 2) := by decide +kernel
theorem dL_law_2118 : decode cL_law 2118 = .ok (.iconst 1, 1) := by decide +kernel
theorem dL_law_2119 : decode cL_law 2119 = .ok (.iadd, 1) := by decide +kernel
theorem dL_law_2120 : decode cL_law 2120 = .ok (.iaload, 1) := by decide +kernel
theorem dL_law_2121 : decode cL_law 2121 = .ok (.invokevirtual 222, 3) := by decide +kernel
theorem dL_law_2124 : decode cL_law 2124 = .ok (.istore 7, 2) := by decide +kernel
theorem dL_law_2126 : decode cL_law 2126 = .ok (.aload_n 2, 1) := by decide +kernel
theorem dL_law_2127 : decode cL_law 2127 = .ok (.invokevirtual 139, 3) := by decide +kernel
theorem dL_law_2130 : decode cL_law 2130 = .ok (.iload 6, 2) := by decide +kernel
theorem dL_law_2132 : decode cL_law 2132 = .ok (.if_icmp .eq 5, 3) := by decide +kernel
theorem dL_law_2135 : decode cL_law 2135 = .ok (.iconst 0, 1) := by decide +kernel
theorem dL_law_2136 : decode cL_law 2136 = .ok (.ireturn, 1) := by decide +kernel
theorem dL_law_2137 : decode cL_law 2137 = .ok (.iload 6, 2) := by decide +kernel
theorem dL_law_2139 : decode cL_law 2139 = .ok (.ifCond .ne 15, 3) := by decide +kernel
theorem dL_law_2142 : decode cL_law 2142 = .ok (.aload_n 3, 1) := by decide +kernel
theorem dL_law_2143 : decode cL_law 2143 = .ok (.iconst 0, 1) := by decide +kernel
theorem dL_law_2144 : decode cL_law 2144 = .ok (.laload, 1) := by decide +kernel
theorem dL_law_2145 : decode cL_law 2145 = .ok (.iload 7, 2) := by decide +kernel
theorem dL_law_2147 : decode cL_law 2147 = .ok (.i2l, 1) := by decide +kernel
theorem dL_law_2148 : decode cL_law 2148 = .ok (.lcmp, 1) := by decide +kernel
theorem dL_law_2149 : decode cL_law 2149 = .ok (.ifCond .eq 5, 3) := by decide +kernel
theorem dL_law_2152 : decode cL_law 2152 = .ok (.iconst 0, 1) := by decide +kernel
theorem dL_law_2153 : decode cL_law 2153 = .ok (.ireturn, 1) := by decide +kernel
theorem dL_law_2154 : decode cL_law 2154 = .ok (.goto 575, 3) := by decide +kernel
theorem dL_law_2157 : decode cL_law 2157 = .ok (.aload_n 1, 1) := by decide +kernel
theorem dL_law_2158 : decode cL_law 2158 = .ok (.aload_n 0, 1) := by decide +kernel
theorem dL_law_2159 : decode cL_law 2159 = .ok (.iload 5, 2) := by decide +kernel
theorem dL_law_2161 : decode cL_law 2161 = .ok (.iconst 1, 1) := by decide +kernel
theorem dL_law_2162 : decode cL_law 2162 = .ok (.iadd, 1) := by decide +kernel
theorem dL_law_2163 : decode cL_law 2163 = .ok (.iaload, 1) := by decide +kernel
theorem dL_law_2164 : decode cL_law 2164 = .ok (.aload_n 0, 1) := by decide +kernel
theorem dL_law_2165 : decode cL_law 2165 = .ok (.iload 5, 2) := by decide +kernel
theorem dL_law_2167 : decode cL_law 2167 = .ok (.iconst 2, 1) := by decide +kernel
theorem dL_law_2168 : decode cL_law 2168 = .ok (.iadd, 1) := by decide +kernel
theorem dL_law_2169 : decode cL_law 2169 = .ok (.iaload, 1) := by decide +kernel
theorem dL_law_2170 : decode cL_law 2170 = .ok (.aload_n 3, 1) := by decide +kernel
theorem dL_law_2171 : decode cL_law 2171 = .ok (.invokestatic 223, 3) := by decide +kernel
theorem dL_law_2174 : decode cL_law 2174 = .ok (.istore 6, 2) := by decide +kernel
theorem dL_law_2176 : decode cL_law 2176 = .ok (.aload_n 2, 1) := by decide +kernel
theorem dL_law_2177 : decode cL_law 2177 = .ok (.aload_n 0, 1) := by decide +kernel
theorem dL_law_2178 : decode cL_law 2178 = .ok (.iload 5, 2) := by decide +kernel
theorem dL_law_2180 : decode cL_law 2180 = .ok (.iconst 1, 1) := by decide +kernel
theorem dL_law_2181 : decode cL_law 2181 = .ok (.iadd, 1) := by decide +kernel
theorem dL_law_2182 : decode cL_law 2182 = .ok (.iaload, 1) := by decide +kernel
theorem dL_law_2183 : decode cL_law 2183 = .ok (.aload_n 0, 1) := by decide +kernel
theorem dL_law_2184 : decode cL_law 2184 = .ok (.iload 5, 2) := by decide +kernel
theorem dL_law_2186 : decode cL_law 2186 = .ok (.iconst 2, 1) := by decide +kernel
theorem dL_law_2187 : decode cL_law 2187 = .ok (.iadd, 1) := by decide +kernel
theorem dL_law_2188 : decode cL_law 2188 = .ok (.iaload, 1) := by decide +kernel
theorem dL_law_2189 : decode cL_law 2189 = .ok (.invokevirtual 225, 3) := by decide +kernel
theorem dL_law_2192 : decode cL_law 2192 = .ok (.istore 7, 2) := by decide +kernel
theorem dL_law_2194 : decode cL_law 2194 = .ok (.aload_n 2, 1) := by decide +kernel
theorem dL_law_2195 : decode cL_law 2195 = .ok (.invokevirtual 139, 3) := by decide +kernel
theorem dL_law_2198 : decode cL_law 2198 = .ok (.iload 6, 2) := by decide +kernel
theorem dL_law_2200 : decode cL_law 2200 = .ok (.if_icmp .eq 5, 3) := by decide +kernel
theorem dL_law_2203 : decode cL_law 2203 = .ok (.iconst 0, 1) := by decide +kernel
theorem dL_law_2204 : decode cL_law 2204 = .ok (.ireturn, 1) := by decide +kernel
theorem dL_law_2205 : decode cL_law 2205 = .ok (.iload 6, 2) := by decide +kernel
theorem dL_law_2207 : decode cL_law 2207 = .ok (.ifCond .ne 15, 3) := by decide +kernel
theorem dL_law_2210 : decode cL_law 2210 = .ok (.aload_n 3, 1) := by decide +kernel
theorem dL_law_2211 : decode cL_law 2211 = .ok (.iconst 0, 1) := by decide +kernel
theorem dL_law_2212 : decode cL_law 2212 = .ok (.laload, 1) := by decide +kernel
theorem dL_law_2213 : decode cL_law 2213 = .ok (.iload 7, 2) := by decide +kernel
theorem dL_law_2215 : decode cL_law 2215 = .ok (.i2l, 1) := by decide +kernel
theorem dL_law_2216 : decode cL_law 2216 = .ok (.lcmp, 1) := by decide +kernel
theorem dL_law_2217 : decode cL_law 2217 = .ok (.ifCond .eq 5, 3) := by decide +kernel
theorem dL_law_2220 : decode cL_law 2220 = .ok (.iconst 0, 1) := by decide +kernel
theorem dL_law_2221 : decode cL_law 2221 = .ok (.ireturn, 1) := by decide +kernel
theorem dL_law_2222 : decode cL_law 2222 = .ok (.goto 507, 3) := by decide +kernel
theorem dL_law_2225 : decode cL_law 2225 = .ok (.aload_n 1, 1) := by decide +kernel
theorem dL_law_2226 : decode cL_law 2226 = .ok (.aload_n 0, 1) := by decide +kernel
theorem dL_law_2227 : decode cL_law 2227 = .ok (.iload 5, 2) := by decide +kernel
theorem dL_law_2229 : decode cL_law 2229 = .ok (.iconst 1, 1) := by decide +kernel
theorem dL_law_2230 : decode cL_law 2230 = .ok (.iadd, 1) := by decide +kernel
theorem dL_law_2231 : decode cL_law 2231 = .ok (.iaload, 1) := by decide +kernel
theorem dL_law_2232 : decode cL_law 2232 = .ok (.aload_n 0, 1) := by decide +kernel
theorem dL_law_2233 : decode cL_law 2233 = .ok (.iload 5, 2) := by decide +kernel
theorem dL_law_2235 : decode cL_law 2235 = .ok (.iconst 2, 1) := by decide +kernel
theorem dL_law_2236 : decode cL_law 2236 = .ok (.iadd, 1) := by decide +kernel
theorem dL_law_2237 : decode cL_law 2237 = .ok (.iaload, 1) := by decide +kernel
theorem dL_law_2238 : decode cL_law 2238 = .ok (.aload_n 0, 1) := by decide +kernel
theorem dL_law_2239 : decode cL_law 2239 = .ok (.iload 5, 2) := by decide +kernel
theorem dL_law_2241 : decode cL_law 2241 = .ok (.iconst 3, 1) := by decide +kernel
theorem dL_law_2242 : decode cL_law 2242 = .ok (.iadd, 1) := by decide +kernel
theorem dL_law_2243 : decode cL_law 2243 = .ok (.iaload, 1) := by decide +kernel
theorem dL_law_2244 : decode cL_law 2244 = .ok (.aload_n 0, 1) := by decide +kernel
theorem dL_law_2245 : decode cL_law 2245 = .ok (.iload 5, 2) := by decide +kernel
theorem dL_law_2247 : decode cL_law 2247 = .ok (.iconst 4, 1) := by decide +kernel
theorem dL_law_2248 : decode cL_law 2248 = .ok (.iadd, 1) := by decide +kernel
theorem dL_law_2249 : decode cL_law 2249 = .ok (.iaload, 1) := by decide +kernel
theorem dL_law_2250 : decode cL_law 2250 = .ok (.aload_n 3, 1) := by decide +kernel
theorem dL_law_2251 : decode cL_law 2251 = .ok (.invokestatic 226, 3) := by decide +kernel
theorem dL_law_2254 : decode cL_law 2254 = .ok (.istore 6, 2) := by decide +kernel
theorem dL_law_2256 : decode cL_law 2256 = .ok (.aload_n 2, 1) := by decide +kernel
theorem dL_law_2257 : decode cL_law 2257 = .ok (.aload_n 0, 1) := by decide +kernel
theorem dL_law_2258 : decode cL_law 2258 = .ok (.iload 5, 2) := by decide +kernel
theorem dL_law_2260 : decode cL_law 2260 = .ok (.iconst 1, 1) := by decide +kernel
theorem dL_law_2261 : decode cL_law 2261 = .ok (.iadd, 1) := by decide +kernel
theorem dL_law_2262 : decode cL_law 2262 = .ok (.iaload, 1) := by decide +kernel
theorem dL_law_2263 : decode cL_law 2263 = .ok (.aload_n 0, 1) := by decide +kernel
theorem dL_law_2264 : decode cL_law 2264 = .ok (.iload 5, 2) := by decide +kernel
theorem dL_law_2266 : decode cL_law 2266 = .ok (.iconst 2, 1) := by decide +kernel
theorem dL_law_2267 : decode cL_law 2267 = .ok (.iadd, 1) := by decide +kernel
theorem dL_law_2268 : decode cL_law 2268 = .ok (.iaload, 1) := by decide +kernel
theorem dL_law_2269 : decode cL_law 2269 = .ok (.aload_n 0, 1) := by decide +kernel
theorem dL_law_2270 : decode cL_law 2270 = .ok (.iload 5, 2) := by decide +kernel
theorem dL_law_2272 : decode cL_law 2272 = .ok (.iconst 3, 1) := by decide +kernel
theorem dL_law_2273 : decode cL_law 2273 = .ok (.iadd, 1) := by decide +kernel
theorem dL_law_2274 : decode cL_law 2274 = .ok (.iaload, 1) := by decide +kernel
theorem dL_law_2275 : decode cL_law 2275 = .ok (.aload_n 0, 1) := by decide +kernel
theorem dL_law_2276 : decode cL_law 2276 = .ok (.iload 5, 2) := by decide +kernel
theorem dL_law_2278 : decode cL_law 2278 = .ok (.iconst 4, 1) := by decide +kernel
theorem dL_law_2279 : decode cL_law 2279 = .ok (.iadd, 1) := by decide +kernel
theorem dL_law_2280 : decode cL_law 2280 = .ok (.iaload, 1) := by decide +kernel
theorem dL_law_2281 : decode cL_law 2281 = .ok (.invokevirtual 229, 3) := by decide +kernel
theorem dL_law_2284 : decode cL_law 2284 = .ok (.istore 7, 2) := by decide +kernel
theorem dL_law_2286 : decode cL_law 2286 = .ok (.aload_n 2, 1) := by decide +kernel
theorem dL_law_2287 : decode cL_law 2287 = .ok (.invokevirtual 139, 3) := by decide +kernel
theorem dL_law_2290 : decode cL_law 2290 = .ok (.iload 6, 2) := by decide +kernel
theorem dL_law_2292 : decode cL_law 2292 = .ok (.if_icmp .eq 5, 3) := by decide +kernel
theorem dL_law_2295 : decode cL_law 2295 = .ok (.iconst 0, 1) := by decide +kernel
theorem dL_law_2296 : decode cL_law 2296 = .ok (.ireturn, 1) := by decide +kernel
theorem dL_law_2297 : decode cL_law 2297 = .ok (.iload 6, 2) := by decide +kernel
theorem dL_law_2299 : decode cL_law 2299 = .ok (.ifCond .ne 15, 3) := by decide +kernel
theorem dL_law_2302 : decode cL_law 2302 = .ok (.aload_n 3, 1) := by decide +kernel
theorem dL_law_2303 : decode cL_law 2303 = .ok (.iconst 0, 1) := by decide +kernel
theorem dL_law_2304 : decode cL_law 2304 = .ok (.laload, 1) := by decide +kernel
theorem dL_law_2305 : decode cL_law 2305 = .ok (.iload 7, 2) := by decide +kernel
theorem dL_law_2307 : decode cL_law 2307 = .ok (.i2l, 1) := by decide +kernel
theorem dL_law_2308 : decode cL_law 2308 = .ok (.lcmp, 1) := by decide +kernel
theorem dL_law_2309 : decode cL_law 2309 = .ok (.ifCond .eq 5, 3) := by decide +kernel
theorem dL_law_2312 : decode cL_law 2312 = .ok (.iconst 0, 1) := by decide +kernel
theorem dL_law_2313 : decode cL_law 2313 = .ok (.ireturn, 1) := by decide +kernel
theorem dL_law_2314 : decode cL_law 2314 = .ok (.goto 415, 3) := by decide +kernel
theorem dL_law_2317 : decode cL_law 2317 = .ok (.aload_n 1, 1) := by decide +kernel
theorem dL_law_2318 : decode cL_law 2318 = .ok (.aload_n 0, 1) := by decide +kernel
theorem dL_law_2319 : decode cL_law 2319 = .ok (.iload 5, 2) := by decide +kernel
theorem dL_law_2321 : decode cL_law 2321 = .ok (.iconst 1, 1) := by decide +kernel
theorem dL_law_2322 : decode cL_law 2322 = .ok (.iadd, 1) := by decide +kernel
theorem dL_law_2323 : decode cL_law 2323 = .ok (.iaload, 1) := by decide +kernel
theorem dL_law_2324 : decode cL_law 2324 = .ok (.aload_n 0, 1) := by decide +kernel
theorem dL_law_2325 : decode cL_law 2325 = .ok (.iload 5, 2) := by decide +kernel
theorem dL_law_2327 : decode cL_law 2327 = .ok (.iconst 2, 1) := by decide +kernel
theorem dL_law_2328 : decode cL_law 2328 = .ok (.iadd, 1) := by decide +kernel
theorem dL_law_2329 : decode cL_law 2329 = .ok (.iaload, 1) := by decide +kernel
theorem dL_law_2330 : decode cL_law 2330 = .ok (.aload_n 3, 1) := by decide +kernel
theorem dL_law_2331 : decode cL_law 2331 = .ok (.invokestatic 230, 3) := by decide +kernel
theorem dL_law_2334 : decode cL_law 2334 = .ok (.istore 6, 2) := by decide +kernel
theorem dL_law_2336 : decode cL_law 2336 = .ok (.aload_n 2, 1) := by decide +kernel
theorem dL_law_2337 : decode cL_law 2337 = .ok (.aload_n 0, 1) := by decide +kernel
theorem dL_law_2338 : decode cL_law 2338 = .ok (.iload 5, 2) := by decide +kernel
theorem dL_law_2340 : decode cL_law 2340 = .ok (.iconst 1, 1) := by decide +kernel
theorem dL_law_2341 : decode cL_law 2341 = .ok (.iadd, 1) := by decide +kernel
theorem dL_law_2342 : decode cL_law 2342 = .ok (.iaload, 1) := by decide +kernel
theorem dL_law_2343 : decode cL_law 2343 = .ok (.aload_n 0, 1) := by decide +kernel
theorem dL_law_2344 : decode cL_law 2344 = .ok (.iload 5, 2) := by decide +kernel
theorem dL_law_2346 : decode cL_law 2346 = .ok (.iconst 2, 1) := by decide +kernel
theorem dL_law_2347 : decode cL_law 2347 = .ok (.iadd, 1) := by decide +kernel
theorem dL_law_2348 : decode cL_law 2348 = .ok (.iaload, 1) := by decide +kernel
theorem dL_law_2349 : decode cL_law 2349 = .ok (.invokevirtual 232, 3) := by decide +kernel
theorem dL_law_2352 : decode cL_law 2352 = .ok (.istore 7, 2) := by decide +kernel
theorem dL_law_2354 : decode cL_law 2354 = .ok (.aload_n 2, 1) := by decide +kernel
theorem dL_law_2355 : decode cL_law 2355 = .ok (.invokevirtual 139, 3) := by decide +kernel
theorem dL_law_2358 : decode cL_law 2358 = .ok (.iload 6, 2) := by decide +kernel
theorem dL_law_2360 : decode cL_law 2360 = .ok (.if_icmp .eq 5, 3) := by decide +kernel
theorem dL_law_2363 : decode cL_law 2363 = .ok (.iconst 0, 1) := by decide +kernel
theorem dL_law_2364 : decode cL_law 2364 = .ok (.ireturn, 1) := by decide +kernel
theorem dL_law_2365 : decode cL_law 2365 = .ok (.iload 6, 2) := by decide +kernel
theorem dL_law_2367 : decode cL_law 2367 = .ok (.ifCond .ne 15, 3) := by decide +kernel
theorem dL_law_2370 : decode cL_law 2370 = .ok (.aload_n 3, 1) := by decide +kernel
theorem dL_law_2371 : decode cL_law 2371 = .ok (.iconst 0, 1) := by decide +kernel
theorem dL_law_2372 : decode cL_law 2372 = .ok (.laload, 1) := by decide +kernel
theorem dL_law_2373 : decode cL_law 2373 = .ok (.iload 7, 2) := by decide +kernel
theorem dL_law_2375 : decode cL_law 2375 = .ok (.i2l, 1) := by decide +kernel
theorem dL_law_2376 : decode cL_law 2376 = .ok (.lcmp, 1) := by decide +kernel
theorem dL_law_2377 : decode cL_law 2377 = .ok (.ifCond .eq 5, 3) := by decide +kernel
theorem dL_law_2380 : decode cL_law 2380 = .ok (.iconst 0, 1) := by decide +kernel
theorem dL_law_2381 : decode cL_law 2381 = .ok (.ireturn, 1) := by decide +kernel
theorem dL_law_2382 : decode cL_law 2382 = .ok (.goto 347, 3) := by decide +kernel
theorem dL_law_2385 : decode cL_law 2385 = .ok (.aload_n 1, 1) := by decide +kernel
theorem dL_law_2386 : decode cL_law 2386 = .ok (.aload_n 0, 1) := by decide +kernel
theorem dL_law_2387 : decode cL_law 2387 = .ok (.iload 5, 2) := by decide +kernel
theorem dL_law_2389 : decode cL_law 2389 = .ok (.iconst 1, 1) := by decide +kernel
theorem dL_law_2390 : decode cL_law 2390 = .ok (.iadd, 1) := by decide +kernel
theorem dL_law_2391 : decode cL_law 2391 = .ok (.iaload, 1) := by decide +kernel
theorem dL_law_2392 : decode cL_law 2392 = .ok (.aload_n 0, 1) := by decide +kernel
theorem dL_law_2393 : decode cL_law 2393 = .ok (.iload 5, 2) := by decide +kernel
theorem dL_law_2395 : decode cL_law 2395 = .ok (.iconst 2, 1) := by decide +kernel
theorem dL_law_2396 : decode cL_law 2396 = .ok (.iadd, 1) := by decide +kernel
theorem dL_law_2397 : decode cL_law 2397 = .ok (.iaload, 1) := by decide +kernel
theorem dL_law_2398 : decode cL_law 2398 = .ok (.aload_n 0, 1) := by decide +kernel
theorem dL_law_2399 : decode cL_law 2399 = .ok (.iload 5, 2) := by decide +kernel
theorem dL_law_2401 : decode cL_law 2401 = .ok (.iconst 3, 1) := by decide +kernel
theorem dL_law_2402 : decode cL_law 2402 = .ok (.iadd, 1) := by decide +kernel
theorem dL_law_2403 : decode cL_law 2403 = .ok (.iaload, 1) := by decide +kernel
theorem dL_law_2404 : decode cL_law 2404 = .ok (.aload_n 3, 1) := by decide +kernel
theorem dL_law_2405 : decode cL_law 2405 = .ok (.invokestatic 233, 3) := by decide +kernel
theorem dL_law_2408 : decode cL_law 2408 = .ok (.istore 6, 2) := by decide +kernel
theorem dL_law_2410 : decode cL_law 2410 = .ok (.aload_n 2, 1) := by decide +kernel
theorem dL_law_2411 : decode cL_law 2411 = .ok (.aload_n 0, 1) := by decide +kernel
theorem dL_law_2412 : decode cL_law 2412 = .ok (.iload 5, 2) := by decide +kernel
theorem dL_law_2414 : decode cL_law 2414 = .ok (.iconst 1, 1) := by decide +kernel
theorem dL_law_2415 : decode cL_law 2415 = .ok (.iadd, 1) := by decide +kernel
theorem dL_law_2416 : decode cL_law 2416 = .ok (.iaload, 1) := by decide +kernel
theorem dL_law_2417 : decode cL_law 2417 = .ok (.aload_n 0, 1) := by decide +kernel
theorem dL_law_2418 : decode cL_law 2418 = .ok (.iload 5, 2) := by decide +kernel
theorem dL_law_2420 : decode cL_law 2420 = .ok (.iconst 2, 1) := by decide +kernel
theorem dL_law_2421 : decode cL_law 2421 = .ok (.iadd, 1) := by decide +kernel
theorem dL_law_2422 : decode cL_law 2422 = .ok (.iaload, 1) := by decide +kernel
theorem dL_law_2423 : decode cL_law 2423 = .ok (.aload_n 0, 1) := by decide +kernel
theorem dL_law_2424 : decode cL_law 2424 = .ok (.iload 5, 2) := by decide +kernel
theorem dL_law_2426 : decode cL_law 2426 = .ok (.iconst 3, 1) := by decide +kernel
theorem dL_law_2427 : decode cL_law 2427 = .ok (.iadd, 1) := by decide +kernel
theorem dL_law_2428 : decode cL_law 2428 = .ok (.iaload, 1) := by decide +kernel
theorem dL_law_2429 : decode cL_law 2429 = .ok (.invokevirtual 235, 3) := by decide +kernel
theorem dL_law_2432 : decode cL_law 2432 = .ok (.istore 7, 2) := by decide +kernel
theorem dL_law_2434 : decode cL_law 2434 = .ok (.aload_n 2, 1) := by decide +kernel
theorem dL_law_2435 : decode cL_law 2435 = .ok (.invokevirtual 139, 3) := by decide +kernel
theorem dL_law_2438 : decode cL_law 2438 = .ok (.iload 6, 2) := by decide +kernel
theorem dL_law_2440 : decode cL_law 2440 = .ok (.if_icmp .eq 5, 3) := by decide +kernel
theorem dL_law_2443 : decode cL_law 2443 = .ok (.iconst 0, 1) := by decide +kernel
theorem dL_law_2444 : decode cL_law 2444 = .ok (.ireturn, 1) := by decide +kernel
theorem dL_law_2445 : decode cL_law 2445 = .ok (.iload 6, 2) := by decide +kernel
theorem dL_law_2447 : decode cL_law 2447 = .ok (.ifCond .ne 15, 3) := by decide +kernel
theorem dL_law_2450 : decode cL_law 2450 = .ok (.aload_n 3, 1) := by decide +kernel
theorem dL_law_2451 : decode cL_law 2451 = .ok (.iconst 0, 1) := by decide +kernel
theorem dL_law_2452 : decode cL_law 2452 = .ok (.laload, 1) := by decide +kernel
theorem dL_law_2453 : decode cL_law 2453 = .ok (.iload 7, 2) := by decide +kernel
theorem dL_law_2455 : decode cL_law 2455 = .ok (.i2l, 1) := by decide +kernel
theorem dL_law_2456 : decode cL_law 2456 = .ok (.lcmp, 1) := by decide +kernel
theorem dL_law_2457 : decode cL_law 2457 = .ok (.ifCond .eq 5, 3) := by decide +kernel
theorem dL_law_2460 : decode cL_law 2460 = .ok (.iconst 0, 1) := by decide +kernel
theorem dL_law_2461 : decode cL_law 2461 = .ok (.ireturn, 1) := by decide +kernel
theorem dL_law_2462 : decode cL_law 2462 = .ok (.goto 267, 3) := by decide +kernel
theorem dL_law_2465 : decode cL_law 2465 = .ok (.aload_n 1, 1) := by decide +kernel
theorem dL_law_2466 : decode cL_law 2466 = .ok (.aload_n 0, 1) := by decide +kernel
theorem dL_law_2467 : decode cL_law 2467 = .ok (.iload 5, 2) := by decide +kernel
theorem dL_law_2469 : decode cL_law 2469 = .ok (.iconst 1, 1) := by decide +kernel
theorem dL_law_2470 : decode cL_law 2470 = .ok (.iadd, 1) := by decide +kernel
theorem dL_law_2471 : decode cL_law 2471 = .ok (.iaload, 1) := by decide +kernel
theorem dL_law_2472 : decode cL_law 2472 = .ok (.aload_n 0, 1) := by decide +kernel
theorem dL_law_2473 : decode cL_law 2473 = .ok (.iload 5, 2) := by decide +kernel
theorem dL_law_2475 : decode cL_law 2475 = .ok (.iconst 2, 1) := by decide +kernel
theorem dL_law_2476 : decode cL_law 2476 = .ok (.iadd, 1) := by decide +kernel
theorem dL_law_2477 : decode cL_law 2477 = .ok (.iaload, 1) := by decide +kernel
theorem dL_law_2478 : decode cL_law 2478 = .ok (.aload_n 0, 1) := by decide +kernel
theorem dL_law_2479 : decode cL_law 2479 = .ok (.iload 5, 2) := by decide +kernel
theorem dL_law_2481 : decode cL_law 2481 = .ok (.iconst 3, 1) := by decide +kernel
theorem dL_law_2482 : decode cL_law 2482 = .ok (.iadd, 1) := by decide +kernel
theorem dL_law_2483 : decode cL_law 2483 = .ok (.iaload, 1) := by decide +kernel
theorem dL_law_2484 : decode cL_law 2484 = .ok (.i2c, 1) := by decide +kernel
theorem dL_law_2485 : decode cL_law 2485 = .ok (.aload_n 3, 1) := by decide +kernel
theorem dL_law_2486 : decode cL_law 2486 = .ok (.invokestatic 236, 3) := by decide +kernel
theorem dL_law_2489 : decode cL_law 2489 = .ok (.istore 6, 2) := by decide +kernel
theorem dL_law_2491 : decode cL_law 2491 = .ok (.aload_n 2, 1) := by decide +kernel
theorem dL_law_2492 : decode cL_law 2492 = .ok (.aload_n 0, 1) := by decide +kernel
theorem dL_law_2493 : decode cL_law 2493 = .ok (.iload 5, 2) := by decide +kernel
theorem dL_law_2495 : decode cL_law 2495 = .ok (.iconst 1, 1) := by decide +kernel
theorem dL_law_2496 : decode cL_law 2496 = .ok (.iadd, 1) := by decide +kernel
theorem dL_law_2497 : decode cL_law 2497 = .ok (.iaload, 1) := by decide +kernel
theorem dL_law_2498 : decode cL_law 2498 = .ok (.aload_n 0, 1) := by decide +kernel
theorem dL_law_2499 : decode cL_law 2499 = .ok (.iload 5, 2) := by decide +kernel
theorem dL_law_2501 : decode cL_law 2501 = .ok (.iconst 2, 1) := by decide +kernel
theorem dL_law_2502 : decode cL_law 2502 = .ok (.iadd, 1) := by decide +kernel
theorem dL_law_2503 : decode cL_law 2503 = .ok (.iaload, 1) := by decide +kernel
theorem dL_law_2504 : decode cL_law 2504 = .ok (.aload_n 0, 1) := by decide +kernel
theorem dL_law_2505 : decode cL_law 2505 = .ok (.iload 5, 2) := by decide +kernel
theorem dL_law_2507 : decode cL_law 2507 = .ok (.iconst 3, 1) := by decide +kernel
theorem dL_law_2508 : decode cL_law 2508 = .ok (.iadd, 1) := by decide +kernel
theorem dL_law_2509 : decode cL_law 2509 = .ok (.iaload, 1) := by decide +kernel
theorem dL_law_2510 : decode cL_law 2510 = .ok (.i2c, 1) := by decide +kernel
theorem dL_law_2511 : decode cL_law 2511 = .ok (.invokevirtual 238, 3) := by decide +kernel
theorem dL_law_2514 : decode cL_law 2514 = .ok (.istore 7, 2) := by decide +kernel
theorem dL_law_2516 : decode cL_law 2516 = .ok (.aload_n 2, 1) := by decide +kernel
theorem dL_law_2517 : decode cL_law 2517 = .ok (.invokevirtual 139, 3) := by decide +kernel
theorem dL_law_2520 : decode cL_law 2520 = .ok (.iload 6, 2) := by decide +kernel
theorem dL_law_2522 : decode cL_law 2522 = .ok (.if_icmp .eq 5, 3) := by decide +kernel
theorem dL_law_2525 : decode cL_law 2525 = .ok (.iconst 0, 1) := by decide +kernel
theorem dL_law_2526 : decode cL_law 2526 = .ok (.ireturn, 1) := by decide +kernel
theorem dL_law_2527 : decode cL_law 2527 = .ok (.iload 6, 2) := by decide +kernel
theorem dL_law_2529 : decode cL_law 2529 = .ok (.ifCond .ne 15, 3) := by decide +kernel
theorem dL_law_2532 : decode cL_law 2532 = .ok (.aload_n 3, 1) := by decide +kernel
theorem dL_law_2533 : decode cL_law 2533 = .ok (.iconst 0, 1) := by decide +kernel
theorem dL_law_2534 : decode cL_law 2534 = .ok (.laload, 1) := by decide +kernel
theorem dL_law_2535 : decode cL_law 2535 = .ok (.iload 7, 2) := by decide +kernel
theorem dL_law_2537 : decode cL_law 2537 = .ok (.i2l, 1) := by decide +kernel
theorem dL_law_2538 : decode cL_law 2538 = .ok (.lcmp, 1) := by decide +kernel
theorem dL_law_2539 : decode cL_law 2539 = .ok (.ifCond .eq 5, 3) := by decide +kernel
theorem dL_law_2542 : decode cL_law 2542 = .ok (.iconst 0, 1) := by decide +kernel
theorem dL_law_2543 : decode cL_law 2543 = .ok (.ireturn, 1) := by decide +kernel
theorem dL_law_2544 : decode cL_law 2544 = .ok (.goto 185, 3) := by decide +kernel
theorem dL_law_2547 : decode cL_law 2547 = .ok (.aload_n 1, 1) := by decide +kernel
theorem dL_law_2548 : decode cL_law 2548 = .ok (.aload_n 0, 1) := by decide +kernel
theorem dL_law_2549 : decode cL_law 2549 = .ok (.iload 5, 2) := by decide +kernel
theorem dL_law_2551 : decode cL_law 2551 = .ok (.iconst 1, 1) := by decide +kernel
theorem dL_law_2552 : decode cL_law 2552 = .ok (.iadd, 1) := by decide +kernel
theorem dL_law_2553 : decode cL_law 2553 = .ok (.iaload, 1) := by decide +kernel
theorem dL_law_2554 : decode cL_law 2554 = .ok (.aload 4, 2) := by decide +kernel
theorem dL_law_2556 : decode cL_law 2556 = .ok (.invokestatic 239, 3) := by decide +kernel
theorem dL_law_2559 : decode cL_law 2559 = .ok (.istore 6, 2) := by decide +kernel
theorem dL_law_2561 : decode cL_law 2561 = .ok (.aload_n 2, 1) := by decide +kernel
theorem dL_law_2562 : decode cL_law 2562 = .ok (.aload_n 0, 1) := by decide +kernel
theorem dL_law_2563 : decode cL_law 2563 = .ok (.iload 5, 2) := by decide +kernel
theorem dL_law_2565 : decode cL_law 2565 = .ok (.iconst 1, 1) := by decide +kernel
theorem dL_law_2566 : decode cL_law 2566 = .ok (.iadd, 1) := by decide +kernel
theorem dL_law_2567 : decode cL_law 2567 = .ok (.iaload, 1) := by decide +kernel
theorem dL_law_2568 : decode cL_law 2568 = .ok (.invokevirtual 242, 3) := by decide +kernel
theorem dL_law_2571 : decode cL_law 2571 = .ok (.fstore 7, 2) := by decide +kernel
theorem dL_law_2573 : decode cL_law 2573 = .ok (.aload_n 2, 1) := by decide +kernel
theorem dL_law_2574 : decode cL_law 2574 = .ok (.invokevirtual 139, 3) := by decide +kernel
theorem dL_law_2577 : decode cL_law 2577 = .ok (.iload 6, 2) := by decide +kernel
theorem dL_law_2579 : decode cL_law 2579 = .ok (.if_icmp .eq 5, 3) := by decide +kernel
theorem dL_law_2582 : decode cL_law 2582 = .ok (.iconst 0, 1) := by decide +kernel
theorem dL_law_2583 : decode cL_law 2583 = .ok (.ireturn, 1) := by decide +kernel
theorem dL_law_2584 : decode cL_law 2584 = .ok (.iload 6, 2) := by decide +kernel
theorem dL_law_2586 : decode cL_law 2586 = .ok (.ifCond .ne 36, 3) := by decide +kernel
theorem dL_law_2589 : decode cL_law 2589 = .ok (.aload 4, 2) := by decide +kernel
theorem dL_law_2591 : decode cL_law 2591 = .ok (.iconst 0, 1) := by decide +kernel
theorem dL_law_2592 : decode cL_law 2592 = .ok (.daload, 1) := by decide +kernel
theorem dL_law_2593 : decode cL_law 2593 = .ok (.fload 7, 2) := by decide +kernel
theorem dL_law_2595 : decode cL_law 2595 = .ok (.f2d, 1) := by decide +kernel
theorem dL_law_2596 : decode cL_law 2596 = .ok (.dcmp .l, 1) := by decide +kernel
theorem dL_law_2597 : decode cL_law 2597 = .ok (.ifCond .eq 25, 3) := by decide +kernel
theorem dL_law_2600 : decode cL_law 2600 = .ok (.aload 4, 2) := by decide +kernel
theorem dL_law_2602 : decode cL_law 2602 = .ok (.iconst 0, 1) := by decide +kernel
theorem dL_law_2603 : decode cL_law 2603 = .ok (.daload, 1) := by decide +kernel
theorem dL_law_2604 : decode cL_law 2604 = .ok (.aload 4, 2) := by decide +kernel
theorem dL_law_2606 : decode cL_law 2606 = .ok (.iconst 0, 1) := by decide +kernel
theorem dL_law_2607 : decode cL_law 2607 = .ok (.daload, 1) := by decide +kernel
theorem dL_law_2608 : decode cL_law 2608 = .ok (.dcmp .l, 1) := by decide +kernel
theorem dL_law_2609 : decode cL_law 2609 = .ok (.ifCond .eq 11, 3) := by decide +kernel
theorem dL_law_2612 : decode cL_law 2612 = .ok (.fload 7, 2) := by decide +kernel
theorem dL_law_2614 : decode cL_law 2614 = .ok (.fload 7, 2) := by decide +kernel
theorem dL_law_2616 : decode cL_law 2616 = .ok (.fcmp .l, 1) := by decide +kernel
theorem dL_law_2617 : decode cL_law 2617 = .ok (.ifCond .ne 5, 3) := by decide +kernel
theorem dL_law_2620 : decode cL_law 2620 = .ok (.iconst 0, 1) := by decide +kernel
theorem dL_law_2621 : decode cL_law 2621 = .ok (.ireturn, 1) := by decide +kernel
theorem dL_law_2622 : decode cL_law 2622 = .ok (.goto 107, 3) := by decide +kernel
theorem dL_law_2625 : decode cL_law 2625 = .ok (.aload_n 1, 1) := by decide +kernel
theorem dL_law_2626 : decode cL_law 2626 = .ok (.aload_n 0, 1) := by decide +kernel
theorem dL_law_2627 : decode cL_law 2627 = .ok (.iload 5, 2) := by decide +kernel
theorem dL_law_2629 : decode cL_law 2629 = .ok (.iconst 1, 1) := by decide +kernel
theorem dL_law_2630 : decode cL_law 2630 = .ok (.iadd, 1) := by decide +kernel
theorem dL_law_2631 : decode cL_law 2631 = .ok (.iaload, 1) := by decide +kernel
theorem dL_law_2632 : decode cL_law 2632 = .ok (.aload 4, 2) := by decide +kernel
theorem dL_law_2634 : decode cL_law 2634 = .ok (.invokestatic 243, 3) := by decide +kernel
theorem dL_law_2637 : decode cL_law 2637 = .ok (.istore 6, 2) := by decide +kernel
theorem dL_law_2639 : decode cL_law 2639 = .ok (.aload_n 2, 1) := by decide +kernel
theorem dL_law_2640 : decode cL_law 2640 = .ok (.aload_n 0, 1) := by decide +kernel
theorem dL_law_2641 : decode cL_law 2641 = .ok (.iload 5, 2) := by decide +kernel
theorem dL_law_2643 : decode cL_law 2643 = .ok (.iconst 1, 1) := by decide +kernel
theorem dL_law_2644 : decode cL_law 2644 = .ok (.iadd, 1) := by decide +kernel
theorem dL_law_2645 : decode cL_law 2645 = .ok (.iaload, 1) := by decide +kernel
theorem dL_law_2646 : decode cL_law 2646 = .ok (.invokevirtual 245, 3) := by decide +kernel
theorem dL_law_2649 : decode cL_law 2649 = .ok (.dstore 7, 2) := by decide +kernel
theorem dL_law_2651 : decode cL_law 2651 = .ok (.aload_n 2, 1) := by decide +kernel
theorem dL_law_2652 : decode cL_law 2652 = .ok (.invokevirtual 139, 3) := by decide +kernel
theorem dL_law_2655 : decode cL_law 2655 = .ok (.iload 6, 2) := by decide +kernel
theorem dL_law_2657 : decode cL_law 2657 = .ok (.if_icmp .eq 5, 3) := by decide +kernel
theorem dL_law_2660 : decode cL_law 2660 = .ok (.iconst 0, 1) := by decide +kernel
theorem dL_law_2661 : decode cL_law 2661 = .ok (.ireturn, 1) := by decide +kernel
theorem dL_law_2662 : decode cL_law 2662 = .ok (.iload 6, 2) := by decide +kernel
theorem dL_law_2664 : decode cL_law 2664 = .ok (.ifCond .ne 35, 3) := by decide +kernel
theorem dL_law_2667 : decode cL_law 2667 = .ok (.aload 4, 2) := by decide +kernel
theorem dL_law_2669 : decode cL_law 2669 = .ok (.iconst 0, 1) := by decide +kernel
theorem dL_law_2670 : decode cL_law 2670 = .ok (.daload, 1) := by decide +kernel
theorem dL_law_2671 : decode cL_law 2671 = .ok (.dload 7, 2) := by decide +kernel
theorem dL_law_2673 : decode cL_law 2673 = .ok (.dcmp .l, 1) := by decide +kernel
theorem dL_law_2674 : decode cL_law 2674 = .ok (.ifCond .eq 25, 3) := by decide +kernel
theorem dL_law_2677 : decode cL_law 2677 = .ok (.aload 4, 2) := by decide +kernel
theorem dL_law_2679 : decode cL_law 2679 = .ok (.iconst 0, 1) := by decide +kernel
theorem dL_law_2680 : decode cL_law 2680 = .ok (.daload, 1) := by decide +kernel
theorem dL_law_2681 : decode cL_law 2681 = .ok (.aload 4, 2) := by decide +kernel
theorem dL_law_2683 : decode cL_law 2683 = .ok (.iconst 0, 1) := by decide +kernel
theorem dL_law_2684 : decode cL_law 2684 = .ok (.daload, 1) := by decide +kernel
theorem dL_law_2685 : decode cL_law 2685 = .ok (.dcmp .l, 1) := by decide +kernel
theorem dL_law_2686 : decode cL_law 2686 = .ok (.ifCond .eq 11, 3) := by decide +kernel
theorem dL_law_2689 : decode cL_law 2689 = .ok (.dload 7, 2) := by decide +kernel
theorem dL_law_2691 : decode cL_law 2691 = .ok (.dload 7, 2) := by decide +kernel
theorem dL_law_2693 : decode cL_law 2693 = .ok (.dcmp .l, 1) := by decide +kernel
theorem dL_law_2694 : decode cL_law 2694 = .ok (.ifCond .ne 5, 3) := by decide +kernel
theorem dL_law_2697 : decode cL_law 2697 = .ok (.iconst 0, 1) := by decide +kernel
theorem dL_law_2698 : decode cL_law 2698 = .ok (.ireturn, 1) := by decide +kernel
theorem dL_law_2699 : decode cL_law 2699 = .ok (.goto 30, 3) := by decide +kernel
theorem dL_law_2702 : decode cL_law 2702 = .ok (.aload_n 1, 1) := by decide +kernel
theorem dL_law_2703 : decode cL_law 2703 = .ok (.invokevirtual 246, 3) := by decide +kernel
theorem dL_law_2706 : decode cL_law 2706 = .ok (.aload_n 2, 1) := by decide +kernel
theorem dL_law_2707 : decode cL_law 2707 = .ok (.invokevirtual 250, 3) := by decide +kernel
theorem dL_law_2710 : decode cL_law 2710 = .ok (.lcmp, 1) := by decide +kernel
theorem dL_law_2711 : decode cL_law 2711 = .ok (.ifCond .eq 18, 3) := by decide +kernel
theorem dL_law_2714 : decode cL_law 2714 = .ok (.iconst 0, 1) := by decide +kernel
theorem dL_law_2715 : decode cL_law 2715 = .ok (.ireturn, 1) := by decide +kernel
theorem dL_law_2716 : decode cL_law 2716 = .ok (.aload_n 1, 1) := by decide +kernel
theorem dL_law_2717 : decode cL_law 2717 = .ok (.invokevirtual 251, 3) := by decide +kernel
theorem dL_law_2720 : decode cL_law 2720 = .ok (.aload_n 2, 1) := by decide +kernel
theorem dL_law_2721 : decode cL_law 2721 = .ok (.invokevirtual 255, 3) := by decide +kernel
theorem dL_law_2724 : decode cL_law 2724 = .ok (.if_icmp .eq 5, 3) := by decide +kernel
theorem dL_law_2727 : decode cL_law 2727 = .ok (.iconst 0, 1) := by decide +kernel
theorem dL_law_2728 : decode cL_law 2728 = .ok (.ireturn, 1) := by decide +kernel
theorem dL_law_2729 : decode cL_law 2729 = .ok (.iinc 5 7, 3) := by decide +kernel
theorem dL_law_2732 : decode cL_law 2732 = .ok (.goto (-2704), 3) := by decide +kernel
theorem dL_law_2735 : decode cL_law 2735 = .ok (.iconst 1, 1) := by decide +kernel
theorem dL_law_2736 : decode cL_law 2736 = .ok (.ireturn, 1) := by decide +kernel
end
section
-- ===== PART A: goes FIRST, ahead of the names: the tables' words, and 'selects' of the private methods out of them =====
/-- a private method of a class that the tables say can be made, by its rows of tables_1 -/
def lw_okq (q : MethodName × Nat) : Prop := (q.1.cls ≠ "java/lang/invoke/MethodHandle" ∧ q.1.cls ≠ "java/lang/invoke/VarHandle") ∧ Cond.instantiable q.1.cls q.2 ∈ tables_1 ∧ Cond.privateMethod q.1 ∈ tables_1 ∧ Cond.instanceMethod q.1 ∈ tables_1
theorem lw_p0 : lw_okq (⟨"Spanwarden", "areMapsSound", "()Z"⟩, 8) := ⟨⟨by decide +kernel, by decide +kernel⟩, List.mem_of_getElem? (i := 20) (by decide +kernel), List.mem_of_getElem? (i := 204) (by decide +kernel), List.mem_of_getElem? (i := 205) (by decide +kernel)⟩
theorem lw_p1 : lw_okq (⟨"Spanwarden$Bench", "arePollsSoundFrom", "(LSpanwarden$Table;Z)Z"⟩, 4) := ⟨⟨by decide +kernel, by decide +kernel⟩, List.mem_of_getElem? (i := 34) (by decide +kernel), List.mem_of_getElem? (i := 231) (by decide +kernel), List.mem_of_getElem? (i := 232) (by decide +kernel)⟩
theorem lw_p2 : lw_okq (⟨"Spanwarden", "areViewsSound", "()Z"⟩, 8) := ⟨⟨by decide +kernel, by decide +kernel⟩, List.mem_of_getElem? (i := 20) (by decide +kernel), List.mem_of_getElem? (i := 250) (by decide +kernel), List.mem_of_getElem? (i := 251) (by decide +kernel)⟩
theorem lw_p3 : lw_okq (⟨"Spanwarden", "areOrdersFree", "()Z"⟩, 8) := ⟨⟨by decide +kernel, by decide +kernel⟩, List.mem_of_getElem? (i := 20) (by decide +kernel), List.mem_of_getElem? (i := 262) (by decide +kernel), List.mem_of_getElem? (i := 263) (by decide +kernel)⟩
theorem lw_p4 : lw_okq (⟨"Spanwarden", "isOrderFreeOnAll", "(LSpanwarden$History;LSpanwarden$History;)Z"⟩, 8) := ⟨⟨by decide +kernel, by decide +kernel⟩, List.mem_of_getElem? (i := 20) (by decide +kernel), List.mem_of_getElem? (i := 282) (by decide +kernel), List.mem_of_getElem? (i := 283) (by decide +kernel)⟩
theorem lw_p5 : lw_okq (⟨"Spanwarden", "areOppositesSound", "()Z"⟩, 8) := ⟨⟨by decide +kernel, by decide +kernel⟩, List.mem_of_getElem? (i := 20) (by decide +kernel), List.mem_of_getElem? (i := 313) (by decide +kernel), List.mem_of_getElem? (i := 314) (by decide +kernel)⟩
theorem lw_p6 : lw_okq (⟨"Spanwarden", "areMixesSound", "()Z"⟩, 8) := ⟨⟨by decide +kernel, by decide +kernel⟩, List.mem_of_getElem? (i := 20) (by decide +kernel), List.mem_of_getElem? (i := 330) (by decide +kernel), List.mem_of_getElem? (i := 331) (by decide +kernel)⟩
theorem lw_p7 : lw_okq (⟨"java/lang/Throwable", "fillInStackTrace", "(I)Ljava/lang/Throwable;"⟩, 6) := ⟨⟨by decide +kernel, by decide +kernel⟩, List.mem_of_getElem? (i := 381) (by decide +kernel), List.mem_of_getElem? (i := 379) (by decide +kernel), List.mem_of_getElem? (i := 380) (by decide +kernel)⟩
theorem lw_p8 : lw_okq (⟨"Spanwarden", "mapAt", "(I)LSpanwarden$Table;"⟩, 8) := ⟨⟨by decide +kernel, by decide +kernel⟩, List.mem_of_getElem? (i := 20) (by decide +kernel), List.mem_of_getElem? (i := 432) (by decide +kernel), List.mem_of_getElem? (i := 433) (by decide +kernel)⟩
theorem lw_p9 : lw_okq (⟨"Spanwarden", "pollAt", "(LSpanwarden$Table;I)I"⟩, 8) := ⟨⟨by decide +kernel, by decide +kernel⟩, List.mem_of_getElem? (i := 20) (by decide +kernel), List.mem_of_getElem? (i := 549) (by decide +kernel), List.mem_of_getElem? (i := 550) (by decide +kernel)⟩
theorem lw_p10 : lw_okq (⟨"Spanwarden", "viewAt", "(I)LSpanwarden$View;"⟩, 8) := ⟨⟨by decide +kernel, by decide +kernel⟩, List.mem_of_getElem? (i := 20) (by decide +kernel), List.mem_of_getElem? (i := 614) (by decide +kernel), List.mem_of_getElem? (i := 615) (by decide +kernel)⟩
theorem lw_p11 : lw_okq (⟨"Spanwarden", "historyAt", "(I)LSpanwarden$History;"⟩, 8) := ⟨⟨by decide +kernel, by decide +kernel⟩, List.mem_of_getElem? (i := 20) (by decide +kernel), List.mem_of_getElem? (i := 713) (by decide +kernel), List.mem_of_getElem? (i := 714) (by decide +kernel)⟩
theorem lw_p12 : lw_okq (⟨"SpanwardenModel", "has", "(II)Z"⟩, 21) := ⟨⟨by decide +kernel, by decide +kernel⟩, List.mem_of_getElem? (i := 824) (by decide +kernel), List.mem_of_getElem? (i := 909) (by decide +kernel), List.mem_of_getElem? (i := 910) (by decide +kernel)⟩
theorem lw_p13 : lw_okq (⟨"SpanwardenModel", "placeOf", "(II)I"⟩, 21) := ⟨⟨by decide +kernel, by decide +kernel⟩, List.mem_of_getElem? (i := 824) (by decide +kernel), List.mem_of_getElem? (i := 913) (by decide +kernel), List.mem_of_getElem? (i := 914) (by decide +kernel)⟩
theorem lw_p14 : lw_okq (⟨"SpanwardenModel", "refused", "(I)Z"⟩, 21) := ⟨⟨by decide +kernel, by decide +kernel⟩, List.mem_of_getElem? (i := 824) (by decide +kernel), List.mem_of_getElem? (i := 917) (by decide +kernel), List.mem_of_getElem? (i := 918) (by decide +kernel)⟩
theorem lw_p15 : lw_okq (⟨"SpanwardenModel", "puts", "(III)V"⟩, 21) := ⟨⟨by decide +kernel, by decide +kernel⟩, List.mem_of_getElem? (i := 824) (by decide +kernel), List.mem_of_getElem? (i := 921) (by decide +kernel), List.mem_of_getElem? (i := 922) (by decide +kernel)⟩
def lw_privs_1 : List (MethodName × Nat) := [(⟨"Spanwarden", "areMapsSound", "()Z"⟩, 8), (⟨"Spanwarden$Bench", "arePollsSoundFrom", "(LSpanwarden$Table;Z)Z"⟩, 4), (⟨"Spanwarden", "areViewsSound", "()Z"⟩, 8), (⟨"Spanwarden", "areOrdersFree", "()Z"⟩, 8), (⟨"Spanwarden", "isOrderFreeOnAll", "(LSpanwarden$History;LSpanwarden$History;)Z"⟩, 8), (⟨"Spanwarden", "areOppositesSound", "()Z"⟩, 8), (⟨"Spanwarden", "areMixesSound", "()Z"⟩, 8), (⟨"java/lang/Throwable", "fillInStackTrace", "(I)Ljava/lang/Throwable;"⟩, 6), (⟨"Spanwarden", "mapAt", "(I)LSpanwarden$Table;"⟩, 8), (⟨"Spanwarden", "pollAt", "(LSpanwarden$Table;I)I"⟩, 8), (⟨"Spanwarden", "viewAt", "(I)LSpanwarden$View;"⟩, 8), (⟨"Spanwarden", "historyAt", "(I)LSpanwarden$History;"⟩, 8), (⟨"SpanwardenModel", "has", "(II)Z"⟩, 21), (⟨"SpanwardenModel", "placeOf", "(II)I"⟩, 21), (⟨"SpanwardenModel", "refused", "(I)Z"⟩, 21), (⟨"SpanwardenModel", "puts", "(III)V"⟩, 21)]
theorem lw_r1 : ∀ q ∈ lw_privs_1, lw_okq q := List.forall_mem_cons.mpr ⟨lw_p0, List.forall_mem_cons.mpr ⟨lw_p1, List.forall_mem_cons.mpr ⟨lw_p2, List.forall_mem_cons.mpr ⟨lw_p3, List.forall_mem_cons.mpr ⟨lw_p4, List.forall_mem_cons.mpr ⟨lw_p5, List.forall_mem_cons.mpr ⟨lw_p6, List.forall_mem_cons.mpr ⟨lw_p7, List.forall_mem_cons.mpr ⟨lw_p8, List.forall_mem_cons.mpr ⟨lw_p9, List.forall_mem_cons.mpr ⟨lw_p10, List.forall_mem_cons.mpr ⟨lw_p11, List.forall_mem_cons.mpr ⟨lw_p12, List.forall_mem_cons.mpr ⟨lw_p13, List.forall_mem_cons.mpr ⟨lw_p14, List.forall_mem_cons.mpr ⟨lw_p15, fun _ h => absurd h List.not_mem_nil⟩⟩⟩⟩⟩⟩⟩⟩⟩⟩⟩⟩⟩⟩⟩⟩
theorem lw_p16 : lw_okq (⟨"SpanwardenModel", "takes", "(II)V"⟩, 21) := ⟨⟨by decide +kernel, by decide +kernel⟩, List.mem_of_getElem? (i := 824) (by decide +kernel), List.mem_of_getElem? (i := 933) (by decide +kernel), List.mem_of_getElem? (i := 934) (by decide +kernel)⟩
theorem lw_p17 : lw_okq (⟨"SpanwardenModel", "nearAt", "(IIIIC)I"⟩, 21) := ⟨⟨by decide +kernel, by decide +kernel⟩, List.mem_of_getElem? (i := 824) (by decide +kernel), List.mem_of_getElem? (i := 944) (by decide +kernel), List.mem_of_getElem? (i := 945) (by decide +kernel)⟩
theorem lw_p18 : lw_okq (⟨"SpanwardenModel", "pollsAt", "(II)I"⟩, 21) := ⟨⟨by decide +kernel, by decide +kernel⟩, List.mem_of_getElem? (i := 824) (by decide +kernel), List.mem_of_getElem? (i := 959) (by decide +kernel), List.mem_of_getElem? (i := 960) (by decide +kernel)⟩
theorem lw_p19 : lw_okq (⟨"SpanwardenModel", "manyOf", "(I)I"⟩, 21) := ⟨⟨by decide +kernel, by decide +kernel⟩, List.mem_of_getElem? (i := 824) (by decide +kernel), List.mem_of_getElem? (i := 998) (by decide +kernel), List.mem_of_getElem? (i := 999) (by decide +kernel)⟩
theorem lw_p20 : lw_okq (⟨"SpanwardenModel", "behindOf", "(I)I"⟩, 21) := ⟨⟨by decide +kernel, by decide +kernel⟩, List.mem_of_getElem? (i := 824) (by decide +kernel), List.mem_of_getElem? (i := 1002) (by decide +kernel), List.mem_of_getElem? (i := 1003) (by decide +kernel)⟩
theorem lw_p21 : lw_okq (⟨"SpanwardenModel", "firstOf", "(I)I"⟩, 21) := ⟨⟨by decide +kernel, by decide +kernel⟩, List.mem_of_getElem? (i := 824) (by decide +kernel), List.mem_of_getElem? (i := 1006) (by decide +kernel), List.mem_of_getElem? (i := 1007) (by decide +kernel)⟩
theorem lw_p22 : lw_okq (⟨"SpanwardenModel", "isIn", "(II)Z"⟩, 21) := ⟨⟨by decide +kernel, by decide +kernel⟩, List.mem_of_getElem? (i := 824) (by decide +kernel), List.mem_of_getElem? (i := 1010) (by decide +kernel), List.mem_of_getElem? (i := 1011) (by decide +kernel)⟩
theorem lw_p23 : lw_okq (⟨"SpanwardenModel", "viewNearAt", "(IIC)I"⟩, 21) := ⟨⟨by decide +kernel, by decide +kernel⟩, List.mem_of_getElem? (i := 824) (by decide +kernel), List.mem_of_getElem? (i := 1030) (by decide +kernel), List.mem_of_getElem? (i := 1031) (by decide +kernel)⟩
theorem lw_p24 : lw_okq (⟨"SpanwardenModel", "adds", "(ICII)V"⟩, 21) := ⟨⟨by decide +kernel, by decide +kernel⟩, List.mem_of_getElem? (i := 824) (by decide +kernel), List.mem_of_getElem? (i := 1061) (by decide +kernel), List.mem_of_getElem? (i := 1062) (by decide +kernel)⟩
theorem lw_p25 : lw_okq (⟨"SpanwardenModel", "isTooMuch", "(III)Z"⟩, 21) := ⟨⟨by decide +kernel, by decide +kernel⟩, List.mem_of_getElem? (i := 824) (by decide +kernel), List.mem_of_getElem? (i := 1073) (by decide +kernel), List.mem_of_getElem? (i := 1074) (by decide +kernel)⟩
theorem lw_p26 : lw_okq (⟨"SpanwardenModel", "gathers", "(II)V"⟩, 21) := ⟨⟨by decide +kernel, by decide +kernel⟩, List.mem_of_getElem? (i := 824) (by decide +kernel), List.mem_of_getElem? (i := 1077) (by decide +kernel), List.mem_of_getElem? (i := 1078) (by decide +kernel)⟩
theorem lw_p27 : lw_okq (⟨"SpanwardenModel", "does", "(II)Z"⟩, 21) := ⟨⟨by decide +kernel, by decide +kernel⟩, List.mem_of_getElem? (i := 824) (by decide +kernel), List.mem_of_getElem? (i := 1081) (by decide +kernel), List.mem_of_getElem? (i := 1082) (by decide +kernel)⟩
theorem lw_p28 : lw_okq (⟨"SpanwardenModel", "hasKey", "(II)Z"⟩, 21) := ⟨⟨by decide +kernel, by decide +kernel⟩, List.mem_of_getElem? (i := 824) (by decide +kernel), List.mem_of_getElem? (i := 1093) (by decide +kernel), List.mem_of_getElem? (i := 1094) (by decide +kernel)⟩
theorem lw_p29 : lw_okq (⟨"SpanwardenModel", "manyTogether", "(II)I"⟩, 21) := ⟨⟨by decide +kernel, by decide +kernel⟩, List.mem_of_getElem? (i := 824) (by decide +kernel), List.mem_of_getElem? (i := 1105) (by decide +kernel), List.mem_of_getElem? (i := 1106) (by decide +kernel)⟩
def lw_privs_2 : List (MethodName × Nat) := [(⟨"SpanwardenModel", "takes", "(II)V"⟩, 21), (⟨"SpanwardenModel", "nearAt", "(IIIIC)I"⟩, 21), (⟨"SpanwardenModel", "pollsAt", "(II)I"⟩, 21), (⟨"SpanwardenModel", "manyOf", "(I)I"⟩, 21), (⟨"SpanwardenModel", "behindOf", "(I)I"⟩, 21), (⟨"SpanwardenModel", "firstOf", "(I)I"⟩, 21), (⟨"SpanwardenModel", "isIn", "(II)Z"⟩, 21), (⟨"SpanwardenModel", "viewNearAt", "(IIC)I"⟩, 21), (⟨"SpanwardenModel", "adds", "(ICII)V"⟩, 21), (⟨"SpanwardenModel", "isTooMuch", "(III)Z"⟩, 21), (⟨"SpanwardenModel", "gathers", "(II)V"⟩, 21), (⟨"SpanwardenModel", "does", "(II)Z"⟩, 21), (⟨"SpanwardenModel", "hasKey", "(II)Z"⟩, 21), (⟨"SpanwardenModel", "manyTogether", "(II)I"⟩, 21)]
theorem lw_r2 : ∀ q ∈ lw_privs_2, lw_okq q := List.forall_mem_cons.mpr ⟨lw_p16, List.forall_mem_cons.mpr ⟨lw_p17, List.forall_mem_cons.mpr ⟨lw_p18, List.forall_mem_cons.mpr ⟨lw_p19, List.forall_mem_cons.mpr ⟨lw_p20, List.forall_mem_cons.mpr ⟨lw_p21, List.forall_mem_cons.mpr ⟨lw_p22, List.forall_mem_cons.mpr ⟨lw_p23, List.forall_mem_cons.mpr ⟨lw_p24, List.forall_mem_cons.mpr ⟨lw_p25, List.forall_mem_cons.mpr ⟨lw_p26, List.forall_mem_cons.mpr ⟨lw_p27, List.forall_mem_cons.mpr ⟨lw_p28, List.forall_mem_cons.mpr ⟨lw_p29, fun _ h => absurd h List.not_mem_nil⟩⟩⟩⟩⟩⟩⟩⟩⟩⟩⟩⟩⟩⟩
def lw_privs : List (MethodName × Nat) := lw_privs_1 ++ (lw_privs_2)
def lw_tbl : List Cond := k2_sels lw_privs ++ tables_1
theorem lw_privs_ok : ∀ q ∈ lw_privs, lw_okq q := by
  show ∀ q ∈ lw_privs_1 ++ (lw_privs_2), lw_okq q
  exact List.forall_mem_append.mpr ⟨lw_r1, lw_r2⟩
/-- the streams that the claim lets the run draw from -/
abbrev lw_cs : List Choice := [Jvm.Choice.named "NaN.bits"]
theorem lw_bits : nanBits ∈ lw_cs := by first | decide | exact List.mem_cons_self | simp [lw_cs, nanBits]
end
section
section
variable {p : Program} {l : Launch} {e : Env} {R : Room} {s : State} {m : MethodId} {args : Array Value} {below : List Frame} {meth : Method} {c : Code} {H : Heap} {locs : List Loc} {cells slots : Nat}
variable {T : State}
theorem vx_callSN (X : Stand p l e R s m args below meth c T locs cells slots) (hexec : p.tables.exec = Jvm.exec) {own : String} {index : Nat} {host : String} {y : MethodName} {bytes : ByteArray} {maxL : Nat} {ret : Option FieldType}
    (hown : s.vm.findClass own = some m.cls) (hlink : (Cond.methodLinkNest own index y host).before args s = true) (hstat : (Cond.static y).before args s = true) (hinit : (Cond.initialized y.cls).before args s = true)
    (hcode : (Cond.code y bytes maxL ret).before args s = true) (hy : y.cls ≠ "java/lang/invoke/MethodHandle" ∧ y.cls ≠ "java/lang/invoke/VarHandle")
    {W : Nat} {Pre : Pt → Array Value → Prop} {Post : Pt → Array Value → Option Value → Pt → Prop} {PostX : Pt → Array Value → Addr → Pt → Prop} (hK : vx_Back l R p e below s args y 3 W Pre Post PostX)
    {g : JFrame} (hg : g.method = m) (hsize : g.locals.size = c.maxLocals) {argsL rest : List Value} (hlen : ∀ sig, parseMethodDescriptor y.desc = some sig → argsL.length = sig.parameters.length)
    (hstack : g.stack = argsL.reverse ++ rest) (hW : 2 * g.monitorRoom + (rest.map fun v => v.category).sum ≤ W) (hdg : decode c.code g.pc = .ok (.invokestatic index, 3))
    (hpre : ∀ vm₁, s.WarmedH vm₁ → Pre ⟨T.setVm vm₁, locs, cells, slots⟩ argsL.toArray) :
    (∃ (v : Option Value) (vm₁ : Vm) (B : Pt), s.WarmedH vm₁ ∧ Stand p l e R s m args below meth c B.U B.locs B.cells B.slots ∧ Post ⟨T.setVm vm₁, locs, cells, slots⟩ argsL.toArray v B ∧
      ∀ target, Steps p.tables e below (B.U.setTop { g with pc := g.pc + 3, stack := v.toList ++ rest }) target → Steps p.tables e below (T.setTop g) target) ∨
    (∃ (q : Addr) (vm₁ : Vm) (B : Pt), s.WarmedH vm₁ ∧ Stand p l e R s m args below meth c B.U B.locs B.cells B.slots ∧ PostX ⟨T.setVm vm₁, locs, cells, slots⟩ argsL.toArray q B ∧
      Steps p.tables e below (T.setTop g) ((B.U.setTop { g with stack := rest }).pushFrame (.throwing q))) := by
  obtain ⟨mk, hnamed⟩ := Cond.code_named hcode
  obtain ⟨methM, cM, hmethM, -, -, -, -, -, -, hsigM⟩ := Cond.code_spec hnamed hcode
  have hstatic : methM.isStatic = true := Cond.static_spec hnamed hmethM hstat
  obtain ⟨kP, hkP, -⟩ := className_of_methodNamed hnamed
  have hinitP : kP.init = .initialized := Cond.initialized_spec (findClass_of_methodNamed hnamed) hkP hinit
  obtain ⟨vm₁, X₁, hstep₁⟩ := X.invokestaticNest hexec hown hlink hnamed hmethM hstatic hkP hinitP hy (g := g) hg (argsL := argsL) (rest := rest) (hlen _ hsigM) hstack hdg
  rcases hK m meth c ⟨T.setVm vm₁, locs, cells, slots⟩ { g with stack := rest } (.invokestatic index) mk argsL.toArray X₁ hg hsize hdg hW (X₁.named hnamed) (hpre vm₁ X₁.warmed) with ⟨v, B, X', hpost, hsteps⟩ | ⟨q, B, X', hpost, hsteps⟩
  · exact Or.inl ⟨v, vm₁, B, X₁.warmed, X', hpost, fun target h => hstep₁ _ fun acts => by rw [doInvoke_state]; exact hsteps.trans h⟩
  · exact Or.inr ⟨q, vm₁, B, X₁.warmed, X', hpost, hstep₁ _ fun acts => by rw [doInvoke_state]; exact hsteps⟩
theorem vx_runSN {y : MethodName} {bytes cc : ByteArray} {maxL nL mc ms n index : Nat} {ret : Option FieldType} {ws : List Cond} {rm : Room} {Pc : Array Value → State → Prop} {Qc : Array Value → State → Outcome → State → Prop} {XC : String → State → State → Prop} {free : Addr → Prop} {Ts : List Cond} {own host : String} {As rest : List Value} {g : JFrame}
    (S : CallFix p m c cc nL s args Ts own) (hM : vx_Met l y ws rm Pc Qc XC mc ms free) (cw : va_CN R s args own index y host bytes maxL ret ws rm mc ms n ∧ (Cond.static y).before args s = true ∧ True) (hp : PreS s H Pc As)
    (hg : g.method = m) (hn : As.length = n) (hsize : g.locals.size = nL) (hstack : g.stack = As.reverse ++ rest) (hW : 2 * g.monitorRoom + (rest.map fun v => v.category).sum ≤ 8) (hdg : decode cc g.pc = .ok (.invokestatic index, 3)) (hf : cells + mc ≤ R.cells ∧ slots + ms ≤ R.slots) :
    vx_Run p l e R s m args below meth c H locs cells slots mc ms g rest (Qc As.toArray) XC free := by
  obtain ⟨⟨⟨hrc, hrs, hfr, hlo, hws, hcw⟩, hcode, hini, hy, hlen, hl⟩, hx1, hx2⟩ := cw
  have hK : vx_Back l R p e below s args y 3 8 (PreOf R mc ms Pc) (PostOf Qc mc ms free) (vx_Post XC mc ms free) := vx_back (bytes := bytes) (maxL := maxL) (ret := ret) hM hp.1 hrc hrs hfr hlo hws hcw (fun a' U hW => word_at hW (Or.inl (by first | rfl | simp [Cond.onTables, Cond.keeps, Cond.steady])) hini)
  obtain ⟨hx, hb, hml, ho, -⟩ := S
  have hPc := hp.2
  intro T hT X
  rcases vx_callSN X hx (bytes := bytes) (maxL := maxL) (ret := ret) ho hl hx1 hini hcode hy hK hg (hsize.trans hml.symm) (argsL := As) (rest := rest) (fun sig h => hn.trans (hlen sig h)) hstack hW (by rw [hb]; exact hdg)
    (fun vm₁ hW₁ => ⟨hf.1, hf.2, hPc (T.setVm vm₁) hT hW₁⟩) with ⟨v, vm₁, ⟨U', l2, c2, s2⟩, hW₁, X', ⟨g', mk, t, L, e1, e2, hq, h1, hL, h2, h3⟩, st⟩ | ⟨q, vm₁, ⟨U', l2, c2, s2⟩, hW₁, X', ⟨g', mk, t, L, E, ce, e1, e2, hq, hce, hcv, hcl, h1, hL, h2, h3⟩, st⟩
  · dsimp only [Pt.U, Pt.locs, Pt.cells, Pt.slots] at X' e1 e2 h1 h2 h3 st
    subst h1; subst h2; subst h3
    exact Or.inl ⟨v, (T.setVm vm₁).calling g' mk As.toArray, t, U', L, hT, X', hL, e1, e2, hq, st⟩
  · dsimp only [Pt.U, Pt.locs, Pt.cells, Pt.slots] at X' e1 e2 h1 h2 h3 st hcl
    subst h1; subst h2; subst h3
    exact Or.inr ⟨q, (T.setVm vm₁).calling g' mk As.toArray, t, U', L, E, ce, hT, X', hL, e1, e2, hq, hce, hcv, vx_cls hW₁ hcl, st⟩
end
end
section
/-! THE ROOM OF CELLS: 63 cells at the addresses ad 0 .. ad 62. What they hold: σ, a row of ints for each cell (an object's number fields by their places, an array's elements), X the law's own two rows. 0 Spanwarden, 1..3 its rows of references, 4 Bench, 5 drainedKeys, 6+3t Table t (0..2 maps, 3 keySet, 4 left, 5 right) with keys, values behind it, 24+v View v, 28+4h History h (0..2, 3 turned) with kinds, keys, numbers behind it, 44 SpanwardenModel, 45..60 its rows, 61, 62 the law's rows -/
abbrev sM : Type := Nat → Nat → Int32
abbrev sX : Type := (Nat → Int64) × (Nat → UInt64)
abbrev sCl : List vw_C := [(RX0, TX0, 4), (RX1, TX1, 4), (RX2, TX2, 3), (RX3, TX3, 6), (RX4, TX4, 8), (RX5, TX5, 21)]
def sTys (cy : Nat → ClassId) : List (ClassId × FieldType) := [(cy 0, .int), (cy 1, .char), (cy 2, .boolean), (cy 3, .object RX2), (cy 4, .object RX3), (cy 5, .object RX1), (cy 6, .long), (cy 7, .double)]
/-- the Table that a View's source names: its cell's number, 0 for null -/
def sSrc (x : Int32) : Option Nat := if x = 6 then some 6 else if x = 9 then some 9 else if x = 12 then some 12 else if x = 15 then some 15 else if x = 18 then some 18 else if x = 21 then some 21 else none
def sTab (ad : Nat → Nat) (k : Nat) (f : Nat → Int32) : va_E := .inr (2, [.ref (ad (k + 1)), .ref (ad (k + 2)), .int (f 2)])
def sVie (ad : Nat → Nat) (f : Nat → Int32) : va_E := .inr (3, [va_rf ((sSrc (f 0)).map ad), .int (f 1), .int (f 2), .int (f 3), .int (f 4), .int (f 5)])
def sHis (ad : Nat → Nat) (k : Nat) (f : Nat → Int32) : va_E := .inr (1, [.int (f 0), .ref (ad (k + 1)), .ref (ad (k + 2)), .ref (ad (k + 3))])
def sInt (c : ClassId) (n : Nat) (f : Nat → Int32) : va_E := .inl (c, n, .inl f)
def sRow (cy : Nat → ClassId) (ad : Nat → Nat) (X : sX) (k : Nat) (f : Nat → Int32) : va_E := match k with
  | 0 => .inr (4, [.ref (ad 1), .ref (ad 2), .ref (ad 3), .ref (ad 4), .ref (ad 5), .int (f 5), .int (f 6), .int (f 7)])
  | 1 => .inl (cy 3, 3, .inr (.inr (.inr (.inr (va_up (va_up (va_up (fun _ => none) 0 (some (ad 6))) 1 (some (ad 9))) 2 (some (ad 12)))))))
  | 2 => .inl (cy 4, 4, .inr (.inr (.inr (.inr (va_up (va_up (va_up (va_up (fun _ => none) 0 (some (ad 24))) 1 (some (ad 25))) 2 (some (ad 26))) 3 (some (ad 27)))))))
  | 3 => .inl (cy 5, 3, .inr (.inr (.inr (.inr (va_up (va_up (va_up (fun _ => none) 0 (some (ad 28))) 1 (some (ad 32))) 2 (some (ad 36)))))))
  | 4 => .inr (0, [.ref (ad 15), .ref (ad 18), .ref (ad 21), .ref (ad 40)])
  | 5 => sInt (cy 0) 60 f
  | 6 => sTab ad 6 f
  | 7 => sInt (cy 0) 120 f
  | 8 => sInt (cy 0) 120 f
  | 9 => sTab ad 9 f
  | 10 => sInt (cy 0) 120 f
  | 11 => sInt (cy 0) 120 f
  | 12 => sTab ad 12 f
  | 13 => sInt (cy 0) 120 f
  | 14 => sInt (cy 0) 120 f
  | 15 => sTab ad 15 f
  | 16 => sInt (cy 0) 120 f
  | 17 => sInt (cy 0) 120 f
  | 18 => sTab ad 18 f
  | 19 => sInt (cy 0) 120 f
  | 20 => sInt (cy 0) 120 f
  | 21 => sTab ad 21 f
  | 22 => sInt (cy 0) 120 f
  | 23 => sInt (cy 0) 120 f
  | 24 => sVie ad f
  | 25 => sVie ad f
  | 26 => sVie ad f
  | 27 => sVie ad f
  | 28 => sHis ad 28 f
  | 29 => sInt (cy 1) 30 f
  | 30 => sInt (cy 0) 30 f
  | 31 => sInt (cy 0) 30 f
  | 32 => sHis ad 32 f
  | 33 => sInt (cy 1) 30 f
  | 34 => sInt (cy 0) 30 f
  | 35 => sInt (cy 0) 30 f
  | 36 => sHis ad 36 f
  | 37 => sInt (cy 1) 30 f
  | 38 => sInt (cy 0) 30 f
  | 39 => sInt (cy 0) 30 f
  | 40 => sHis ad 40 f
  | 41 => sInt (cy 1) 30 f
  | 42 => sInt (cy 0) 30 f
  | 43 => sInt (cy 0) 30 f
  | 44 => .inr (5, [.ref (ad 45), .ref (ad 46), .ref (ad 47), .ref (ad 48), .ref (ad 49), .ref (ad 50), .ref (ad 51), .ref (ad 52), .ref (ad 53), .ref (ad 54), .ref (ad 55), .ref (ad 56), .ref (ad 57), .ref (ad 58), .ref (ad 59), .int (f 15), .ref (ad 60), .int (f 17), .int (f 18), .int (f 19), .int (f 20)])
  | 45 => sInt (cy 0) 180 f
  | 46 => sInt (cy 0) 180 f
  | 47 => sInt (cy 0) 3 f
  | 48 => sInt (cy 2) 4 f
  | 49 => sInt (cy 0) 4 f
  | 50 => sInt (cy 0) 4 f
  | 51 => sInt (cy 0) 4 f
  | 52 => sInt (cy 2) 4 f
  | 53 => sInt (cy 2) 4 f
  | 54 => sInt (cy 0) 4 f
  | 55 => sInt (cy 1) 90 f
  | 56 => sInt (cy 0) 90 f
  | 57 => sInt (cy 0) 90 f
  | 58 => sInt (cy 0) 3 f
  | 59 => sInt (cy 0) 60 f
  | 60 => sInt (cy 0) 60 f
  | 61 => .inl (cy 6, 1, .inr (.inl X.1))
  | _ => .inl (cy 7, 1, .inr (.inr (.inr (.inl X.2))))
def isT (k : Nat) : Prop := k = 6 ∨ k = 9 ∨ k = 12 ∨ k = 15 ∨ k = 18 ∨ k = 21
def isV (k : Nat) : Prop := k = 24 ∨ k = 25 ∨ k = 26 ∨ k = 27
def isH (k : Nat) : Prop := k = 28 ∨ k = 32 ∨ k = 36 ∨ k = 40
def sW (cy : Nat → ClassId) (ad : Nat → Nat) (X : sX) (σ : sM) : va_W := (List.range 63).map (fun k => (ad k, sRow cy ad X k (σ k)))
theorem sW_at {cy : Nat → ClassId} {ad : Nat → Nat} {X : sX} {σ : sM} {k : Nat} (hk : k < 63) : (sW cy ad X σ)[k]? = some (ad k, sRow cy ad X k (σ k)) := by
  simp only [sW, List.getElem?_map, List.getElem?_range hk, Option.map_some]
theorem sW_len {cy : Nat → ClassId} {ad : Nat → Nat} {X : sX} {σ : sM} : (sW cy ad X σ).length = 63 := by
  simp only [sW, List.length_map, List.length_range]
theorem sW_out {cy : Nat → ClassId} {ad : Nat → Nat} {X : sX} {σ : sM} {k : Nat} {q : Nat × va_E} (h : (sW cy ad X σ)[k]? = some q) : k < 63 ∧ q = (ad k, sRow cy ad X k (σ k)) := by
  have hk : k < 63 := by
    have := (List.getElem?_eq_some_iff.mp h).1
    rwa [sW_len] at this
  exact ⟨hk, (Option.some.inj ((sW_at hk).symm.trans h)).symm⟩
theorem sW_set {cy : Nat → ClassId} {ad : Nat → Nat} {X : sX} {σ : sM} {k : Nat} (hk : k < 63) (f : Nat → Int32) : (sW cy ad X σ).set k (ad k, sRow cy ad X k f) = sW cy ad X (va_up σ k f) := by
  apply List.ext_getElem?
  intro j
  by_cases hj : j < 63
  · rw [sW_at hj]
    by_cases e : j = k
    · subst e
      rw [List.getElem?_set_self (by rw [sW_len]; exact hj)]
      simp only [va_up, if_pos]
    · rw [List.getElem?_set_ne (Ne.symm e), sW_at hj]
      simp only [va_up, if_neg e]
  · rw [List.getElem?_eq_none (by rw [List.length_set, sW_len]; omega), List.getElem?_eq_none (by rw [sW_len]; omega)]
theorem sW_setX {cy : Nat → ClassId} {ad : Nat → Nat} {X X' : sX} {σ : sM} {k : Nat} (hk : k < 63) (ho : ∀ j, j ≠ k → ∀ f, sRow cy ad X' j f = sRow cy ad X j f) : (sW cy ad X σ).set k (ad k, sRow cy ad X' k (σ k)) = sW cy ad X' σ := by
  apply List.ext_getElem?
  intro j
  by_cases hj : j < 63
  · rw [sW_at hj]
    by_cases e : j = k
    · subst e
      rw [List.getElem?_set_self (by rw [sW_len]; exact hj)]
    · rw [List.getElem?_set_ne (Ne.symm e), sW_at hj, ho j e]
  · rw [List.getElem?_eq_none (by rw [List.length_set, sW_len]; omega), List.getElem?_eq_none (by rw [sW_len]; omega)]
def sAp (ad : Nat → Nat) : Prop := ∀ i j : Nat, i < 63 → j < 63 → ad i = ad j → i = j
def sFree (ad : Nat → Nat) (sz : Nat) : Nat → Prop := fun q => (∃ k, k < 63 ∧ q = ad k) ∨ sz ≤ q
theorem sD {cy : Nat → ClassId} {ad : Nat → Nat} {X : sX} {σ : sM} {sz : Nat} (h : sAp ad) : va_D (sFree ad sz) (sW cy ad X σ) := by
  refine ⟨fun i j p q hp hq e => ?_, fun k q hq => ?_⟩
  · obtain ⟨hi, rfl⟩ := sW_out hp
    obtain ⟨hj, rfl⟩ := sW_out hq
    exact h i j hi hj e
  · obtain ⟨hk, rfl⟩ := sW_out hq
    exact Or.inl ⟨k, hk, rfl⟩
/-- the words that every method has -/
def sT : List Cond := lw_tbl.filter goodWord
theorem sT_of {w : Cond} (h : w ∈ tables_1) (g : goodWord w = true) : w ∈ sT := List.mem_filter.mpr ⟨List.mem_append_right _ h, g⟩
theorem sT_p {w : Cond} (h : w ∈ k2_sels lw_privs) (g : goodWord w = true) : w ∈ sT := List.mem_filter.mpr ⟨List.mem_append_left _ h, g⟩
theorem sT_good {w : Cond} (h : w ∈ sT) : goodWord w = true := (List.mem_filter.mp h).2
/-- the texts of exceptions, as the class file holds them -/
def sStrs : List (String × Nat × String) := [(RX4, 282, "no such map"), (RX4, 296, "the map is full"), (RX4, 59, "the map has no such key"), (RX4, 77, "no such way"), (RX4, 84, "the map has no such near key"), (RX4, 294, "there are no entries"), (RX4, 101, "no entry was polled"), (RX4, 111, "no such place in the row"), (RX4, 114, "no such place in the map"), (RX4, 284, "no such view"), (RX4, 124, "the span ends below where it begins"), (RX4, 292, "the view is not open"), (RX4, 141, "the number does not lie in the span"), (RX4, 148, "no more cuts behind one another"), (RX4, 159, "the key does not lie in the span"), (RX4, 168, "the view has no such near key"), (RX4, 286, "no such history"), (RX4, 181, "no such kind"), (RX4, 184, "the history is full"), (RX4, 194, "the map and the keys of the history are too many"), (RX4, 199, "the map and the keys of both are too many"), (RX4, 216, "no such way, or a map with itself"), (RX4, 221, "both maps together are too many"), (RX4, 230, "no mean of no keys")]
def sExs : List String := ["java/lang/IndexOutOfBoundsException", "java/lang/IllegalStateException", "java/lang/IllegalArgumentException", "java/util/NoSuchElementException", "java/lang/ArithmeticException"]
def sNest : List (String × Nat × MethodName × String) := [(RX0, 11, yX2_init, RX4), (RX0, 26, yX1_init, RX4), (RX4, 29, yX0_init, RX4), (RX4, 38, yX2_init, RX4), (RX4, 39, yX3_init, RX4), (RX4, 40, yX1_init, RX4), (RX2, 67, yX4_chain, RX4), (RX3, 63, yX4_chain, RX4), (RX1, 36, yX4_chain, RX4)]
/-- what holds of the machine's tables and of the JDK's cells at every state of the run -/
def sEnv (D : va_G) (cy : Nat → ClassId) (A : Nat → Prop) (U : State) (H : Heap) : Prop :=
  va_K D sCl (sTys cy) U ∧ vx_Zq Bundle.tN "UNASSIGNED_STACK" Bundle.steD A U H ∧ vx_Zq Bundle.tN "SUPPRESSED_SENTINEL" Bundle.listD A U H ∧
  (∀ q ∈ sStrs, ∃ a, vk_R q.1 q.2.1 q.2.2 a U) ∧ (∀ E ∈ sExs, va_Nw (.castable E E) U) ∧ (∀ q ∈ sNest, va_Nw (.methodLinkNest q.1 q.2.1 q.2.2.1 q.2.2.2) U) ∧ ∀ E ∈ sExs, ∀ F ∈ sExs, E ≠ F → va_Nc E F U
theorem sEnv.moved {D : va_G} {cy : Nat → ClassId} {A : Nat → Prop} {s U : State} {H : Heap} (hW : s.WarmedH U.vm) (h : sEnv D cy A s H) : sEnv D cy A U H := by
  obtain ⟨h1, h2, h3, h4, h5, h6, h7⟩ := h
  refine ⟨va_K.moved hW.alike h1, vx_Zq.moved hW.alike h2, vx_Zq.moved hW.alike h3, fun q hq => ?_, fun E hE => va_Nw.warmC hW (h5 E hE), fun q hq => va_Nw.warmM hW (h6 q hq), fun E hE F hF hn => va_Nc.moved hW.alike (h7 E hE F hF hn)⟩
  obtain ⟨a, ha⟩ := h4 q hq
  exact ⟨a, vk_R.warm hW ha⟩
theorem sEnv.kept {D : va_G} {cy : Nat → ClassId} {A : Nat → Prop} {U : State} {H H1 : Heap} (h : sEnv D cy A U H) (hq : ∀ a : Nat, a < H.size → ¬ A a → H1[a]? = H[a]?) : sEnv D cy A U H1 :=
  ⟨h.1, h.2.1.kept hq, h.2.2.1.kept hq, h.2.2.2⟩
theorem sEnv.narrow {D : va_G} {cy : Nat → ClassId} {A B : Nat → Prop} {U : State} {H : Heap} (h : sEnv D cy A U H) (hAB : ∀ q, B q → A q) : sEnv D cy B U H :=
  ⟨h.1, h.2.1.narrow hAB, h.2.2.1.narrow hAB, h.2.2.2⟩
/-- what a method finds -/
def sPre (D : va_G) (cy : Nat → ClassId) (ad : Nat → Nat) (X : sX) (σ : sM) (sz : Nat) (U : State) : Prop :=
  U.heap.size = sz ∧ va_P D sCl (sW cy ad X σ) U.heap ∧ sEnv D cy (sFree ad sz) U U.heap
/-- how a method ends: it throws the exception of that name, or returns -/
abbrev sO : Type := String ⊕ Option Value
def sC : sO → Nat | .inl _ => 1 | .inr _ => 0
def sS : sO → Nat | .inl _ => 6 | .inr _ => 0
def sQc (D : va_G) (cy : Nat → ClassId) (ad : Nat → Nat) (o : sO) (X : sX) (σ : sM) (sz : Nat) : Array Value → State → Outcome → State → Prop := fun _ st oc t =>
  ∃ v, o = .inr v ∧ oc = .returned v ∧ va_P D sCl (sW cy ad X σ) t.heap ∧ va_F (sFree ad sz) st t
def sXc (D : va_G) (cy : Nat → ClassId) (ad : Nat → Nat) (o : sO) (X : sX) (σ : sM) (sz : Nat) : String → State → State → Prop := fun E st t =>
  o = .inl E ∧ va_P D sCl (sW cy ad X σ) t.heap ∧ va_F (sFree ad sz) st t
def sWs (y : MethodName) (cc : ByteArray) (nL : Nat) (ret : Option FieldType) : List Cond := Cond.code y cc nL ret :: sT
def sWh (y : MethodName) (cc : ByteArray) (nL : Nat) (ret : Option FieldType) (hh : List (Nat × Nat × Nat × Nat)) : List Cond := Cond.codeWith y cc nL ret hh :: sT
/-- A METHOD'S CONTRACT: from the room σ with the arguments as it ends by o with the room σ' -/
def sMet (l : Launch) (y : MethodName) (ws : List Cond) (fr lo mc ms : Nat) (D : va_G) (cy : Nat → ClassId) (ad : Nat → Nat) (X : sX) (σ : sM) (as : List Value) (o : sO) (X' : sX) (σ' : sM) : Prop :=
  ∀ sz : Nat, vx_Met l y ws { frames := fr, cells := mc, slots := ms, locals := lo } (va_Pc as (sPre D cy ad X σ sz)) (sQc D cy ad o X' σ' sz) (sXc D cy ad o X' σ' sz) mc ms (sFree ad sz)
/-- what holds in a method's body: the machine, the code, the class, the words, the tables, the addresses -/
def sB (p : Program) (l : Launch) (s : State) (m : MethodId) (meth : Method) (c : Code) (args : Array Value) (cc : ByteArray) (nL : Nat) (own : String) (D : va_G) (cy : Nat → ClassId) (ad : Nat → Nat) : Prop :=
  p.tables.exec = Jvm.exec ∧ c.code = cc ∧ c.maxLocals = nL ∧ s.vm.findClass own = some m.cls ∧ (∀ w ∈ sT, w.before args s = true) ∧ sEnv D cy (sFree ad s.heap.size) s s.heap ∧ sAp ad ∧ meth.locks = false ∧ l.stackTraces = false
/-- the heap of a body: the room σ, and what else was there -/
def sH (D : va_G) (cy : Nat → ClassId) (ad : Nat → Nat) (X : sX) (σ : sM) (s : State) (H : Heap) (locs : List Loc) : Prop :=
  va_P D sCl (sW cy ad X σ) H ∧ va_S (sFree ad s.heap.size) s.heap H locs
/-- a body's goal -/
def sQ (below : List Frame) (args : Array Value) (s : State) (mc ms : Nat) (D : va_G) (cy : Nat → ClassId) (ad : Nat → Nat) (o : sO) (X : sX) (σ : sM) : State → Prop :=
  vx_MQ below (sQc D cy ad o X σ s.heap.size) (sXc D cy ad o X σ s.heap.size) args s mc ms (sFree ad s.heap.size)
theorem sMet_of {l : Launch} {y : MethodName} {cc : ByteArray} {nL fr lo mc ms : Nat} {ret : Option FieldType} {D : va_G} {cy : Nat → ClassId} {ad : Nat → Nat} {X X' : sX} {σ σ' : sM} {as : List Value} {o : sO} (hy : plainName y.cls = true) (hn : (lg_sl as).length ≤ nL) (hap : sAp ad) (hl0 : l.stackTraces = false)
    (body : ∀ (p : Program) (e : Env) (s : State) (m : MethodId) (args : Array Value) (below : List Frame) (meth : Method) (c : Code) (ls : Array Slot), sB p l s m meth c args cc nL y.cls D cy ad → meth.sig.returnType = ret → (∀ x ∈ c.exceptionTable.toList, False) → lv_has ls nL (lv_args 0 as) → sH D cy ad X σ s s.heap [] →
      W p l e { frames := fr, cells := mc, slots := ms, locals := lo } s m args below meth c s.heap [] 0 0 (sQ below args s mc ms D cy ad o X' σ') (F0 m 0 ls [])) : sMet l y (sWs y cc nL ret) fr lo mc ms D cy ad X σ as o X' σ' := by
  intro sz
  refine vx_ofW (cc := cc) (maxL := nL) (ret := ret) hy rfl ?_
  intro p e s m args below meth c s₁ B hml htab hv
  obtain ⟨rfl, hsz, hP, hE⟩ := hv
  subst hsz
  have hts := atoms_spec (ws := sWs y cc nL ret) B.pre
  have hown : s.vm.findClass y.cls = some m.cls := findClass_of_methodNamed B.named
  rw [lg_entry_eq]
  exact body p e s m _ below meth c _ ⟨B.exec, B.bytes, hml, hown, fun w hw => hts w (List.mem_cons_of_mem _ hw), hE, hap, B.notSynchronized, hl0⟩ B.returns htab (lv_entry as hn) ⟨hP, va_S.rf⟩
theorem sMet_ofH {l : Launch} {y : MethodName} {cc : ByteArray} {nL fr lo mc ms : Nat} {ret : Option FieldType} {hh : List (Nat × Nat × Nat × Nat)} {D : va_G} {cy : Nat → ClassId} {ad : Nat → Nat} {X X' : sX} {σ σ' : sM} {as : List Value} {o : sO} (hy : plainName y.cls = true) (hn : (lg_sl as).length ≤ nL) (hap : sAp ad) (hl0 : l.stackTraces = false)
    (body : ∀ (p : Program) (e : Env) (s : State) (m : MethodId) (args : Array Value) (below : List Frame) (meth : Method) (c : Code) (ls : Array Slot), sB p l s m meth c args cc nL y.cls D cy ad → meth.sig.returnType = ret → c.exceptionTable.toList = tableOf hh → lv_has ls nL (lv_args 0 as) → sH D cy ad X σ s s.heap [] →
      W p l e { frames := fr, cells := mc, slots := ms, locals := lo } s m args below meth c s.heap [] 0 0 (sQ below args s mc ms D cy ad o X' σ') (F0 m 0 ls [])) : sMet l y (sWh y cc nL ret hh) fr lo mc ms D cy ad X σ as o X' σ' := by
  intro sz
  refine vx_ofWH (cc := cc) (maxL := nL) (ret := ret) (hh := hh) hy rfl ?_
  intro p e s m args below meth c s₁ B hml hv
  obtain ⟨rfl, hsz, hP, hE⟩ := hv
  subst hsz
  have hts := atoms_spec (ws := sWh y cc nL ret hh) B.pre
  have hown : s.vm.findClass y.cls = some m.cls := findClass_of_methodNamed B.named
  rw [lg_entry_eq]
  exact body p e s m _ below meth c _ ⟨B.exec, B.bytes, hml, hown, fun w hw => hts w (List.mem_cons_of_mem _ hw), hE, hap, B.notSynchronized, hl0⟩ B.returns (vx_table (x := y) B (hts _ List.mem_cons_self)) (lv_entry as hn) ⟨hP, va_S.rf⟩
end
section
section ROWS
variable {p : Program} {l : Launch} {e : Env} {R : Room} {s : State} {m : MethodId} {args : Array Value} {below : List Frame} {meth : Method} {c : Code} {H : Heap} {locs : List Loc} {cells slots : Nat} {Q : State → Prop} {cc : ByteArray} {nL : Nat} {own : String} {D : va_G} {cy : Nat → ClassId} {ad : Nat → Nat} {X X' : sX} {σ σ' : sM} {pc : Nat} {ls : Array Slot} {rest st0 : List Value}
theorem sFree_le {ad : Nat → Nat} {a b : Nat} (h : a ≤ b) : ∀ q, sFree ad b q → sFree ad a q := fun _ hq => hq.elim Or.inl (fun h2 => Or.inr (Nat.le_trans h h2))
theorem g_get (B : sB p l s m meth c args cc nL own D cy ad) (h : sH D cy ad X σ s H locs) (k : Nat) (hk : k < 63) {ci : Nat} {fs : List Value} {C : String} {T : u_T} {N index : Nat} (he : sRow cy ad X k (σ k) = .inr (ci, fs)) (hc : sCl[ci]? = some (C, T, N)) (hin : ∀ w ∈ u_ws C T N, w ∈ sT) (j : Nat) (hj : j < N) (hlink : Cond.fieldLink own index C (T j).2.1 (T j).2.2.1 ∈ sT) (hdc : (T j).1 = C) {v : Value} (hv : fs[j]? = some v) (hdg : decode cc pc = .ok (.getfield index, 3))
    (kk : W p l e R s m args below meth c H locs cells slots Q (F0 m (pc + 3) ls (v :: rest))) : W p l e R s m args below meth c H locs cells slots Q (F0 m pc ls (.ref (ad k) :: rest)) :=
  va_get (D := D) B.1 B.2.1 B.2.2.2.2.1 hin B.2.2.2.1 B.2.2.2.2.2.1.1 h.1 k (by rw [sW_at hk, he]) hc j hj (B.2.2.2.2.1 _ hlink) (fun x hx => by rw [hdc] at hx; exact hx) hv hdg kk
theorem g_put (B : sB p l s m meth c args cc nL own D cy ad) (h : sH D cy ad X σ s H locs) (k : Nat) (hk : k < 63) {ci : Nat} {fs : List Value} {C : String} {T : u_T} {N index : Nat} (he : sRow cy ad X k (σ k) = .inr (ci, fs)) (hc : sCl[ci]? = some (C, T, N)) (hin : ∀ w ∈ u_ws C T N, w ∈ sT) (ty0 : Nat → FieldType) (hty : ∀ k, k < N → parseFieldDescriptor (T k).2.2.1 = some (ty0 k)) (hnm : ∀ a, a < N → ∀ b, b < N → a ≠ b → (T a).2.1 ≠ (T b).2.1)
    (j : Nat) (hj : j < N) (hlink : Cond.fieldLink own index C (T j).2.1 (T j).2.2.1 ∈ sT) (hdc : (T j).1 = C) (hfin : (T j).2.2.2 = false) {v : Value} (hn : narrow (ty0 j) v = v) (hfit : fits (ty0 j) v = true) (f : Nat → Int32) (he' : sRow cy ad X k f = .inr (ci, fs.set j v)) (hl : j < fs.length) (hdg : decode cc pc = .ok (.putfield index, 3))
    (kk : ∀ (H1 : Heap) (locs1 : List Loc), sH D cy ad X (va_up σ k f) s H1 locs1 → W p l e R s m args below meth c H1 locs1 cells slots Q (F0 m (pc + 3) ls rest)) : W p l e R s m args below meth c H locs cells slots Q (F0 m pc ls (v :: .ref (ad k) :: rest)) :=
  va_put (D := D) B.1 B.2.1 B.2.2.2.2.1 hin ty0 hty hnm B.2.2.2.1 B.2.2.2.2.2.1.1 h.1 (sD B.2.2.2.2.2.2.1) h.2 k (by rw [sW_at hk, he]) hc j hj (B.2.2.2.2.1 _ hlink) (fun x hx => by rw [hdc] at hx; exact hx) hfin (hty j hj) hn hfit hl hdg
    (fun H1 locs1 hP _ hS => kk H1 locs1 ⟨by rw [← sW_set hk, he']; exact hP, hS⟩)
theorem g_iald (B : sB p l s m meth c args cc nL own D cy ad) (h : sH D cy ad X σ s H locs) (k : Nat) (hk : k < 63) {n : Nat} (he : ∀ f, sRow cy ad X k f = sInt (cy 0) n f) {i : Int32} (hin : vp_in i n) (hdg : decode cc pc = .ok (.iaload, 1))
    (kk : W p l e R s m args below meth c H locs cells slots Q (F0 m (pc + 1) ls (.int (σ k i.toNatClampNeg) :: rest))) : W p l e R s m args below meth c H locs cells slots Q (F0 m pc ls (.int i :: .ref (ad k) :: rest)) :=
  va_iald (D := D) B.1 B.2.1 B.2.2.2.2.2.1.1 h.1 k 0 (cA := cy 0) (n := n) (by rw [sW_at hk, he]; rfl) rfl hin hdg kk
theorem g_cald (B : sB p l s m meth c args cc nL own D cy ad) (h : sH D cy ad X σ s H locs) (k : Nat) (hk : k < 63) {n : Nat} (he : ∀ f, sRow cy ad X k f = sInt (cy 1) n f) {i : Int32} (hin : vp_in i n) (hdg : decode cc pc = .ok (.caload, 1))
    (kk : W p l e R s m args below meth c H locs cells slots Q (F0 m (pc + 1) ls (.int (σ k i.toNatClampNeg) :: rest))) : W p l e R s m args below meth c H locs cells slots Q (F0 m pc ls (.int i :: .ref (ad k) :: rest)) :=
  va_cald (D := D) B.1 B.2.1 B.2.2.2.2.2.1.1 h.1 k 1 (cA := cy 1) (n := n) (by rw [sW_at hk, he]; rfl) rfl hin hdg kk
theorem g_zald (B : sB p l s m meth c args cc nL own D cy ad) (h : sH D cy ad X σ s H locs) (k : Nat) (hk : k < 63) {n : Nat} (he : ∀ f, sRow cy ad X k f = sInt (cy 2) n f) {i : Int32} (hin : vp_in i n) (hdg : decode cc pc = .ok (.baload, 1))
    (kk : W p l e R s m args below meth c H locs cells slots Q (F0 m (pc + 1) ls (.int (σ k i.toNatClampNeg) :: rest))) : W p l e R s m args below meth c H locs cells slots Q (F0 m pc ls (.int i :: .ref (ad k) :: rest)) :=
  va_zald (D := D) B.1 B.2.1 B.2.2.2.2.2.1.1 h.1 k 2 (cA := cy 2) (n := n) (by rw [sW_at hk, he]; rfl) rfl hin hdg kk
theorem g_iast (B : sB p l s m meth c args cc nL own D cy ad) (h : sH D cy ad X σ s H locs) (k : Nat) (hk : k < 63) {n : Nat} (he : ∀ f, sRow cy ad X k f = sInt (cy 0) n f) {i x : Int32} (hin : vp_in i n) (hdg : decode cc pc = .ok (.iastore, 1))
    (kk : ∀ (H1 : Heap) (locs1 : List Loc), sH D cy ad X (va_up σ k (upd (σ k) i.toNatClampNeg x)) s H1 locs1 → W p l e R s m args below meth c H1 locs1 cells slots Q (F0 m (pc + 1) ls rest)) : W p l e R s m args below meth c H locs cells slots Q (F0 m pc ls (.int x :: .int i :: .ref (ad k) :: rest)) :=
  va_iast (D := D) B.1 B.2.1 B.2.2.2.2.2.1.1 h.1 (sD B.2.2.2.2.2.2.1) h.2 k 0 (cA := cy 0) (n := n) (by rw [sW_at hk, he]; rfl) rfl hin hdg
    (fun H1 locs1 hP _ hS => kk H1 locs1 ⟨by rw [← sW_set hk, he]; exact hP, hS⟩)
theorem g_cast (B : sB p l s m meth c args cc nL own D cy ad) (h : sH D cy ad X σ s H locs) (k : Nat) (hk : k < 63) {n : Nat} (he : ∀ f, sRow cy ad X k f = sInt (cy 1) n f) {i x : Int32} (hin : vp_in i n) (hdg : decode cc pc = .ok (.castore, 1))
    (kk : ∀ (H1 : Heap) (locs1 : List Loc), sH D cy ad X (va_up σ k (upd (σ k) i.toNatClampNeg (vp_nar .char x))) s H1 locs1 → W p l e R s m args below meth c H1 locs1 cells slots Q (F0 m (pc + 1) ls rest)) : W p l e R s m args below meth c H locs cells slots Q (F0 m pc ls (.int x :: .int i :: .ref (ad k) :: rest)) :=
  va_cast (D := D) B.1 B.2.1 B.2.2.2.2.2.1.1 h.1 (sD B.2.2.2.2.2.2.1) h.2 k 1 (cA := cy 1) (n := n) (by rw [sW_at hk, he]; rfl) rfl hin hdg
    (fun H1 locs1 hP _ hS => kk H1 locs1 ⟨by rw [← sW_set hk, he]; exact hP, hS⟩)
theorem g_zast (B : sB p l s m meth c args cc nL own D cy ad) (h : sH D cy ad X σ s H locs) (k : Nat) (hk : k < 63) {n : Nat} (he : ∀ f, sRow cy ad X k f = sInt (cy 2) n f) {i x : Int32} (hin : vp_in i n) (hdg : decode cc pc = .ok (.bastore, 1))
    (kk : ∀ (H1 : Heap) (locs1 : List Loc), sH D cy ad X (va_up σ k (upd (σ k) i.toNatClampNeg (vp_nar .boolean x))) s H1 locs1 → W p l e R s m args below meth c H1 locs1 cells slots Q (F0 m (pc + 1) ls rest)) : W p l e R s m args below meth c H locs cells slots Q (F0 m pc ls (.int x :: .int i :: .ref (ad k) :: rest)) :=
  va_zast (D := D) B.1 B.2.1 B.2.2.2.2.2.1.1 h.1 (sD B.2.2.2.2.2.2.1) h.2 k 2 (cA := cy 2) (n := n) (by rw [sW_at hk, he]; rfl) rfl hin hdg
    (fun H1 locs1 hP _ hS => kk H1 locs1 ⟨by rw [← sW_set hk, he]; exact hP, hS⟩)
theorem g_alen (B : sB p l s m meth c args cc nL own D cy ad) (h : sH D cy ad X σ s H locs) (k : Nat) (hk : k < 63) (t : Nat) {ty : FieldType} {z : vp_A} (he : sRow cy ad X k (σ k) = .inl (cy t, z)) (ht : (sTys cy)[t]? = some (cy t, ty)) {v : Int32} (hv : Int32.ofNat z.1 = v) (hdg : decode cc pc = .ok (.arraylength, 1))
    (kk : W p l e R s m args below meth c H locs cells slots Q (F0 m (pc + 1) ls (.int v :: rest))) : W p l e R s m args below meth c H locs cells slots Q (F0 m pc ls (.ref (ad k) :: rest)) :=
  va_alen (D := D) B.1 B.2.1 B.2.2.2.2.2.1.1 h.1 k t (cA := cy t) (x := z) (by rw [sW_at hk, he]) ht hv hdg kk
theorem g_aald (B : sB p l s m meth c args cc nL own D cy ad) (h : sH D cy ad X σ s H locs) (k : Nat) (hk : k < 63) (t : Nat) {C : String} {n : Nat} {f : Nat → Option Nat} (he : sRow cy ad X k (σ k) = .inl (cy t, n, .inr (.inr (.inr (.inr f))))) (ht : (sTys cy)[t]? = some (cy t, .object C)) {i : Int32} (hin : vp_in i n) {r : Nat} (hv : f i.toNatClampNeg = some (ad r)) (hdg : decode cc pc = .ok (.aaload, 1))
    (kk : W p l e R s m args below meth c H locs cells slots Q (F0 m (pc + 1) ls (.ref (ad r) :: rest))) : W p l e R s m args below meth c H locs cells slots Q (F0 m pc ls (.int i :: .ref (ad k) :: rest)) :=
  va_aldq (D := D) B.1 B.2.1 B.2.2.2.2.2.1.1 h.1 k t (cA := cy t) (n := n) (f := f) (by rw [sW_at hk, he]) ht hin hdg (by rw [hv]; exact kk)
theorem g_copy (B : sB p l s m meth c args cc nL own D cy ad) (h : sH D cy ad X σ s H locs) (hsz : nL = ls.size) (k0 k : Nat) (hk0 : k0 < 63) (hk : k < 63) {n0 n1 index : Nat} (he0 : ∀ f, sRow cy ad X k0 f = sInt (cy 0) n0 f) (he : ∀ f, sRow cy ad X k f = sInt (cy 0) n1 f) (hl1 : Cond.methodLink own index arraycopyName ∈ sT) (hl2 : Cond.native arraycopyName ∈ sT) (hl3 : Cond.static arraycopyName ∈ sT) (hl4 : Cond.initialized "java/lang/System" ∈ sT)
    {sp dp n : Int32} (hin : ¬ sp < 0 ∧ ¬ dp < 0 ∧ ¬ n < 0 ∧ sp.toNatClampNeg + n.toNatClampNeg ≤ n0 ∧ dp.toNatClampNeg + n.toNatClampNeg ≤ n1)
    (hframes : 1 ≤ R.frames) (hlocals : (rest.map fun v => v.category).sum + (nativeFrameWords "java/lang/System" "arraycopy" 5 + 11) ≤ R.locals) (hdg : decode cc pc = .ok (.invokestatic index, 3))
    (kk : ∀ (H1 : Heap) (locs1 : List Loc), sH D cy ad X (va_up σ k (va_cpy (σ k0) (σ k) sp.toNatClampNeg dp.toNatClampNeg n.toNatClampNeg)) s H1 locs1 → W p l e R s m args below meth c H1 locs1 cells slots Q (F0 m (pc + 3) ls rest)) : W p l e R s m args below meth c H locs cells slots Q (F0 m pc ls (.int n :: .int dp :: .ref (ad k) :: .int sp :: .ref (ad k0) :: rest)) :=
  va_copyi (D := D) B.1 B.2.1 (B.2.2.1.trans hsz) B.2.2.2.1 (B.2.2.2.2.1 _ hl1) (B.2.2.2.2.1 _ hl2) (B.2.2.2.2.1 _ hl3) (B.2.2.2.2.1 _ hl4) B.2.2.2.2.2.1.1 h.1 (sD B.2.2.2.2.2.2.1) h.2 k0 k 0 0 (c0 := cy 0) (c1 := cy 0) (n0 := n0) (n1 := n1) (ty := .int) (by rw [sW_at hk0, he0]; rfl) (by rw [sW_at hk, he]; rfl) rfl rfl rfl hin.1 hin.2.1 hin.2.2.1 hin.2.2.2.1 hin.2.2.2.2 (fun _ _ => rfl) hframes hlocals hdg
    (fun H1 locs1 hP _ hS => kk H1 locs1 ⟨by rw [← sW_set hk, he]; exact hP, hS⟩)
theorem g_max (B : sB p l s m meth c args cc nL own D cy ad) (hsz : nL = ls.size) {index : Nat} (hl1 : Cond.methodLink own index Lib.Math.max.name ∈ sT) (hl2 : Cond.static Lib.Math.max.name ∈ sT) (hl3 : Cond.initialized "java/lang/Math" ∈ sT) (hl4 : Cond.code Lib.Math.max.name Lib.Math.max.code 2 (some .int) ∈ sT) (hframes : 1 ≤ R.frames) (hlocals : (rest.map fun v => v.category).sum + 13 ≤ R.locals) (hc : cells ≤ R.cells) (hs : slots ≤ R.slots) {x y : Int32} (hdg : decode cc pc = .ok (.invokestatic index, 3))
    (kk : W p l e R s m args below meth c H locs cells slots Q (F0 m (pc + 3) ls (.int (if x < y then y else x) :: rest))) : W p l e R s m args below meth c H locs cells slots Q (F0 m pc ls (.int y :: .int x :: rest)) :=
  va_mmax B.1 B.2.1 (B.2.2.1.trans hsz) B.2.2.2.1 (B.2.2.2.2.1 _ hl1) (B.2.2.2.2.1 _ hl2) (B.2.2.2.2.1 _ hl3) (B.2.2.2.2.1 _ hl4) hframes hlocals hc hs hdg kk
theorem g_min (B : sB p l s m meth c args cc nL own D cy ad) (hsz : nL = ls.size) {index : Nat} (hl1 : Cond.methodLink own index Lib.Math.min.name ∈ sT) (hl2 : Cond.static Lib.Math.min.name ∈ sT) (hl3 : Cond.initialized "java/lang/Math" ∈ sT) (hl4 : Cond.code Lib.Math.min.name Lib.Math.min.code 2 (some .int) ∈ sT) (hframes : 1 ≤ R.frames) (hlocals : (rest.map fun v => v.category).sum + 13 ≤ R.locals) (hc : cells ≤ R.cells) (hs : slots ≤ R.slots) {x y : Int32} (hdg : decode cc pc = .ok (.invokestatic index, 3))
    (kk : W p l e R s m args below meth c H locs cells slots Q (F0 m (pc + 3) ls (.int (if y < x then y else x) :: rest))) : W p l e R s m args below meth c H locs cells slots Q (F0 m pc ls (.int y :: .int x :: rest)) :=
  va_mmin B.1 B.2.1 (B.2.2.1.trans hsz) B.2.2.2.1 (B.2.2.2.2.1 _ hl1) (B.2.2.2.2.1 _ hl2) (B.2.2.2.2.1 _ hl3) (B.2.2.2.2.1 _ hl4) hframes hlocals hc hs hdg kk
/-! calls -/
theorem sRetC {mc ms : Nat} {v : Option Value} {a : Array Value} (hr : vx_Run p l e R s m args below meth c H locs cells slots mc ms (F0 m pc ls st0) rest (sQc D cy ad (.inr v) X' σ' H.size a) (sXc D cy ad (.inr v) X' σ' H.size) (sFree ad H.size)) (h : sH D cy ad X σ s H locs)
    (kk : ∀ (H1 : Heap) (locs1 : List Loc), sH D cy ad X' σ' s H1 locs1 → W p l e R s m args below meth c H1 locs1 (cells + mc) (slots + ms) Q (F0 m (pc + 3) ls (v.toList ++ rest))) : W p l e R s m args below meth c H locs cells slots Q (F0 m pc ls st0) := by
  intro T hT X0
  rcases hr T hT X0 with ⟨v', st₀, t, T', L, h0, X1, hL, e1, e2, ⟨v1, ho, hoc, hP, hF⟩, st⟩ | ⟨q, st₀, t, T', L, E, ce, h0, X1, hL, e1, e2, ⟨ho, -⟩, -⟩
  · cases ho
    cases hoc
    obtain ⟨-, -, k3⟩ := vx_keep h0 e1 h.2 (fun q _ hq => sFree_le h.2.1 q hq) (sFree_le h.2.1) hL hF
    obtain ⟨t2, a1, b1⟩ := kk T'.heap (locs ++ L) ⟨by rw [e1]; exact hP, k3⟩ T' rfl X1
    exact ⟨t2, st t2 a1, b1⟩
  · cases ho
theorem sRetC1 {v : Value} {a : Array Value} (hr : vx_Run p l e R s m args below meth c H locs cells slots 0 0 (F0 m pc ls st0) rest (sQc D cy ad (.inr (some v)) X' σ' H.size a) (sXc D cy ad (.inr (some v)) X' σ' H.size) (sFree ad H.size)) (h : sH D cy ad X σ s H locs)
    (kk : ∀ (H1 : Heap) (locs1 : List Loc), sH D cy ad X' σ' s H1 locs1 → W p l e R s m args below meth c H1 locs1 cells slots Q (F0 m (pc + 3) ls (v :: rest))) : W p l e R s m args below meth c H locs cells slots Q (F0 m pc ls st0) := sRetC hr h kk
theorem sRetC0 {a : Array Value} (hr : vx_Run p l e R s m args below meth c H locs cells slots 0 0 (F0 m pc ls st0) rest (sQc D cy ad (.inr none) X' σ' H.size a) (sXc D cy ad (.inr none) X' σ' H.size) (sFree ad H.size)) (h : sH D cy ad X σ s H locs)
    (kk : ∀ (H1 : Heap) (locs1 : List Loc), sH D cy ad X' σ' s H1 locs1 → W p l e R s m args below meth c H1 locs1 cells slots Q (F0 m (pc + 3) ls rest)) : W p l e R s m args below meth c H locs cells slots Q (F0 m pc ls st0) := sRetC hr h kk
theorem sThrC {mc ms : Nat} {E : String} {a : Array Value} (hr : vx_Run p l e R s m args below meth c H locs cells slots mc ms (F0 m pc ls st0) rest (sQc D cy ad (.inl E) X' σ' H.size a) (sXc D cy ad (.inl E) X' σ' H.size) (sFree ad H.size)) (h : sH D cy ad X σ s H locs)
    (kk : ∀ (H1 : Heap) (locs1 : List Loc) (q : Addr) (ce : Cell), sH D cy ad X' σ' s H1 locs1 → H1[q]? = some ce → ce.vm = .none → s.vm.findClass E = some ce.cls → vx_W p l e R s m args below meth c H1 locs1 (cells + mc) (slots + ms) Q (F0 m pc ls rest) q) : W p l e R s m args below meth c H locs cells slots Q (F0 m pc ls st0) := by
  intro T hT X0
  rcases hr T hT X0 with ⟨v', st₀, t, T', L, h0, X1, hL, e1, e2, ⟨v1, ho, -⟩, st⟩ | ⟨q, st₀, t, T', L, E', ce, h0, X1, hL, e1, e2, ⟨ho, hP, hF⟩, hce, hcv, hcl, st⟩
  · cases ho
  · cases ho
    obtain ⟨-, -, k3⟩ := vx_keep h0 e1 h.2 (fun q _ hq => sFree_le h.2.1 q hq) (sFree_le h.2.1) hL hF
    obtain ⟨t2, a1, b1⟩ := kk T'.heap (locs ++ L) q ce ⟨by rw [e1]; exact hP, k3⟩ (by rw [e1]; exact hce) hcv hcl T' rfl X1
    exact ⟨t2, st.trans a1, b1⟩
theorem sBlind {as : List Value} {sz : Nat} : FrameBlind (va_Pc as (sPre D cy ad X σ sz)) := fun a U g mk h =>
  ⟨h.1, h.2.1, h.2.2.1, sEnv.moved (s := U) (U := U.calling g mk a) (State.WarmedH.refl U) h.2.2.2⟩
theorem sPreAt (B : sB p l s m meth c args cc nL own D cy ad) (h : sH D cy ad X σ s H locs) (as : List Value) : ∀ U : State, U.heap = H → s.WarmedH U.vm → va_Pc as (sPre D cy ad X σ H.size) as.toArray U := fun U hU hW =>
  ⟨rfl, by rw [hU], by rw [hU]; exact h.1, by rw [hU]; exact ((B.2.2.2.2.2.1.kept h.2.2.1).narrow (sFree_le h.2.1)).moved hW⟩
theorem sGood {w : Cond} (h : w ∈ sT) : GoodIn sT (w :: sT) := fun w' hw => by
  rcases List.mem_cons.mp hw with rfl | hw
  · exact ⟨h, good_of_word (sT_good h)⟩
  · exact ⟨hw, good_of_word (sT_good hw)⟩
/-- what a call of a method y needs of the words -/
def sCall (own : String) (index : Nat) (y : MethodName) (bytes : ByteArray) (maxL : Nat) (ret : Option FieldType) (n : Nat) : Prop :=
  Cond.code y bytes maxL ret ∈ sT ∧ Cond.methodLink own index y ∈ sT ∧ Cond.initialized y.cls ∈ sT ∧ y.cls ≠ "java/lang/invoke/MethodHandle" ∧ y.cls ≠ "java/lang/invoke/VarHandle" ∧ (parseMethodDescriptor y.desc).map (fun d => d.parameters.length) = some n
def sCallV (own : String) (index : Nat) (y : MethodName) (bytes : ByteArray) (maxL : Nat) (ret : Option FieldType) (n : Nat) : Prop :=
  sCall own index y bytes maxL ret n ∧ Cond.instanceMethod y ∈ sT ∧ Cond.selects y.cls y y ∈ sT
def sCallS (own : String) (index : Nat) (y : MethodName) (bytes : ByteArray) (maxL : Nat) (ret : Option FieldType) (n : Nat) : Prop :=
  sCall own index y bytes maxL ret n ∧ Cond.static y ∈ sT
theorem sCallB {index fr lo maxL n mc ms : Nat} {y : MethodName} {bytes : ByteArray} {ret : Option FieldType} (hts : ∀ w ∈ sT, w.before args s = true) (hw : sCall own index y bytes maxL ret n) (hR : fr + 1 ≤ R.frames ∧ 8 + (maxL + 11) + lo ≤ R.locals) :
    CallB R s args own index y bytes maxL ret (sWs y bytes maxL ret) { frames := fr, cells := mc, slots := ms, locals := lo } mc ms n :=
  callB_of (rm := { frames := fr, cells := mc, slots := ms, locals := lo }) n hts (sGood hw.1) rfl rfl rfl (hts _ hw.2.2.1) (hts _ hw.2.1) hw.2.2.2 hR
theorem g_runV {index fr lo maxL n mc ms k ci : Nat} {y : MethodName} {bytes : ByteArray} {ret : Option FieldType} {As : List Value} {o : sO} {fs : List Value} {T : u_T} {N : Nat} (B : sB p l s m meth c args cc nL own D cy ad) (h : sH D cy ad X σ s H locs) (hM : sMet l y (sWs y bytes maxL ret) fr lo mc ms D cy ad X σ (.ref (ad k) :: As) o X' σ') (hw : sCallV own index y bytes maxL ret n) (hR : fr + 1 ≤ R.frames ∧ 8 + (maxL + 11) + lo ≤ R.locals)
    (hk : k < 63) (he : sRow cy ad X k (σ k) = .inr (ci, fs)) (hc : sCl[ci]? = some (y.cls, T, N)) (hn : As.length = n) (hsz : nL = ls.size) (hst : st0 = As.reverse ++ .ref (ad k) :: rest) (hcat : (rest.map fun v => v.category).sum ≤ 8) (hdg : decode cc pc = .ok (.invokevirtual index, 3)) (hf : cells + mc ≤ R.cells ∧ slots + ms ≤ R.slots) :
    vx_Run p l e R s m args below meth c H locs cells slots mc ms (F0 m pc ls st0) rest (sQc D cy ad o X' σ' H.size (Value.ref (ad k) :: As).toArray) (sXc D cy ad o X' σ' H.size) (sFree ad H.size) :=
  vx_runV (As := As) (Ts := sT) ⟨B.1, B.2.1, B.2.2.1, B.2.2.2.1, B.2.2.2.2.1⟩ (hM H.size) ⟨sCallB (args := args) B.2.2.2.2.1 hw.1 hR, B.2.2.2.2.1 _ hw.2.1, B.2.2.2.2.1 _ hw.2.2⟩
    ⟨sBlind, va_recv B.2.2.2.2.2.1.1 h.1 hc (q0 := k) (by rw [sW_at hk, he]), sPreAt B h _⟩ rfl hn hsz.symm hst (lv_room hcat) hdg hf
theorem g_runS {index fr lo maxL n mc ms : Nat} {y : MethodName} {bytes : ByteArray} {ret : Option FieldType} {As : List Value} {o : sO} (B : sB p l s m meth c args cc nL own D cy ad) (h : sH D cy ad X σ s H locs) (hM : sMet l y (sWs y bytes maxL ret) fr lo mc ms D cy ad X σ As o X' σ') (hw : sCallS own index y bytes maxL ret n) (hR : fr + 1 ≤ R.frames ∧ 8 + (maxL + 11) + lo ≤ R.locals)
    (hn : As.length = n) (hsz : nL = ls.size) (hst : st0 = As.reverse ++ rest) (hcat : (rest.map fun v => v.category).sum ≤ 8) (hdg : decode cc pc = .ok (.invokestatic index, 3)) (hf : cells + mc ≤ R.cells ∧ slots + ms ≤ R.slots) :
    vx_Run p l e R s m args below meth c H locs cells slots mc ms (F0 m pc ls st0) rest (sQc D cy ad o X' σ' H.size As.toArray) (sXc D cy ad o X' σ' H.size) (sFree ad H.size) :=
  vx_runS (As := As) (Ts := sT) ⟨B.1, B.2.1, B.2.2.1, B.2.2.2.1, B.2.2.2.2.1⟩ (hM H.size) ⟨sCallB (args := args) B.2.2.2.2.1 hw.1 hR, B.2.2.2.2.1 _ hw.2⟩
    ⟨sBlind, sPreAt B h _⟩ rfl hn hsz.symm hst (lv_room hcat) hdg hf
/-- a static method of a nest mate -/
theorem g_runSN {index fr lo maxL n mc ms : Nat} {y : MethodName} {bytes : ByteArray} {ret : Option FieldType} {As : List Value} {o : sO} {host : String} (B : sB p l s m meth c args cc nL own D cy ad) (h : sH D cy ad X σ s H locs) (hM : sMet l y (sWs y bytes maxL ret) fr lo mc ms D cy ad X σ As o X' σ') (hw1 : Cond.code y bytes maxL ret ∈ sT) (hw2 : (own, index, y, host) ∈ sNest) (hw3 : Cond.initialized y.cls ∈ sT) (hw4 : Cond.static y ∈ sT) (hd : y.cls ≠ "java/lang/invoke/MethodHandle" ∧ y.cls ≠ "java/lang/invoke/VarHandle" ∧ (parseMethodDescriptor y.desc).map (fun d => d.parameters.length) = some n) (hR : fr + 1 ≤ R.frames ∧ 8 + (maxL + 11) + lo ≤ R.locals)
    (hn : As.length = n) (hsz : nL = ls.size) (hst : st0 = As.reverse ++ rest) (hcat : (rest.map fun v => v.category).sum ≤ 8) (hdg : decode cc pc = .ok (.invokestatic index, 3)) (hf : cells + mc ≤ R.cells ∧ slots + ms ≤ R.slots) :
    vx_Run p l e R s m args below meth c H locs cells slots mc ms (F0 m pc ls st0) rest (sQc D cy ad o X' σ' H.size As.toArray) (sXc D cy ad o X' σ' H.size) (sFree ad H.size) :=
  vx_runSN (As := As) (Ts := sT) ⟨B.1, B.2.1, B.2.2.1, B.2.2.2.1, B.2.2.2.2.1⟩ (hM H.size) ⟨va_cnB (rm := { frames := fr, cells := mc, slots := ms, locals := lo }) n B.2.2.2.2.1 (sGood hw1) rfl rfl rfl (B.2.2.2.2.2.1.2.2.2.2.2.1 _ hw2) (B.2.2.2.2.1 _ hw3) hd hR, B.2.2.2.2.1 _ hw4, trivial⟩
    ⟨sBlind, sPreAt B h _⟩ rfl hn hsz.symm hst (lv_room hcat) hdg hf
/-! ends -/
theorem sE_any {v : Option Value} (h : sH D cy ad X σ s H locs) : ∀ t : State, t.heap = H → s.WarmedH t.vm → sQc D cy ad (.inr v) X σ s.heap.size args s (.returned v) t := fun t ht _ =>
  ⟨v, rfl, rfl, by rw [ht]; exact h.1, h.2.F ht⟩
theorem sE_i (B : sB p l s m meth c args cc nL own D cy ad) (hr : meth.sig.returnType = some .int) (h : sH D cy ad X σ s H locs) {v : Int32} (hdg : decode cc pc = .ok (.ireturn, 1)) : W p l e R s m args below meth c H locs cells slots (sQ below args s cells slots D cy ad (.inr (some (.int v))) X σ) (F0 m pc ls [.int v]) :=
  vx_ret (W.iret B.1 B.2.1 hr (sE_any h) h.2.2.2 hdg B.2.2.2.2.2.2.2.1)
theorem sE_z {ty : FieldType} (B : sB p l s m meth c args cc nL own D cy ad) (hr : meth.sig.returnType = some ty) (h : sH D cy ad X σ s H locs) {v : Int32} (hn : narrow ty (.int v) = .int v) (hdg : decode cc pc = .ok (.ireturn, 1)) : W p l e R s m args below meth c H locs cells slots (sQ below args s cells slots D cy ad (.inr (some (.int v))) X σ) (F0 m pc ls [.int v]) :=
  vx_ret (W.zret B.1 B.2.1 hr hn (sE_any h) h.2.2.2 hdg B.2.2.2.2.2.2.2.1)
theorem sE_l (B : sB p l s m meth c args cc nL own D cy ad) (hr : meth.sig.returnType = some .long) (h : sH D cy ad X σ s H locs) {v : Int64} (hdg : decode cc pc = .ok (.lreturn, 1)) : W p l e R s m args below meth c H locs cells slots (sQ below args s cells slots D cy ad (.inr (some (.long v))) X σ) (F0 m pc ls [.long v]) :=
  vx_ret (W.lret B.1 B.2.1 hr (sE_any h) h.2.2.2 hdg B.2.2.2.2.2.2.2.1)
theorem sE_f (B : sB p l s m meth c args cc nL own D cy ad) (hr : meth.sig.returnType = some .float) (h : sH D cy ad X σ s H locs) {v : UInt32} (hdg : decode cc pc = .ok (.freturn, 1)) : W p l e R s m args below meth c H locs cells slots (sQ below args s cells slots D cy ad (.inr (some (.float v))) X σ) (F0 m pc ls [.float v]) :=
  vx_ret (W.fret B.1 B.2.1 hr (sE_any h) h.2.2.2 hdg B.2.2.2.2.2.2.2.1)
theorem sE_d (B : sB p l s m meth c args cc nL own D cy ad) (hr : meth.sig.returnType = some .double) (h : sH D cy ad X σ s H locs) {v : UInt64} (hdg : decode cc pc = .ok (.dreturn, 1)) : W p l e R s m args below meth c H locs cells slots (sQ below args s cells slots D cy ad (.inr (some (.double v))) X σ) (F0 m pc ls [.double v]) :=
  vx_ret (W.dret B.1 B.2.1 hr (sE_any h) h.2.2.2 hdg B.2.2.2.2.2.2.2.1)
theorem sE_v (B : sB p l s m meth c args cc nL own D cy ad) (hr : meth.sig.returnType = none) (h : sH D cy ad X σ s H locs) (hdg : decode cc pc = .ok (.return_, 1)) : W p l e R s m args below meth c H locs cells slots (sQ below args s cells slots D cy ad (.inr none) X σ) (F0 m pc ls []) :=
  vx_ret (W.vret B.1 B.2.1 hr (sE_any h) h.2.2.2 hdg B.2.2.2.2.2.2.2.1)
theorem sE_a {C : String} (B : sB p l s m meth c args cc nL own D cy ad) (hr : meth.sig.returnType = some (.object C)) (h : sH D cy ad X σ s H locs) {a : Nat} (hdg : decode cc pc = .ok (.areturn, 1)) : W p l e R s m args below meth c H locs cells slots (sQ below args s cells slots D cy ad (.inr (some (.ref a))) X σ) (F0 m pc ls [.ref a]) :=
  vx_ret (W.aret B.1 B.2.1 hr (Or.inl ⟨C, rfl⟩) (Or.inr ⟨a, rfl⟩) (sE_any h) h.2.2.2 hdg B.2.2.2.2.2.2.2.1)
/-- a callee's throw goes on to the caller -/
theorem sE_out {E : String} {ce : Cell} {q : Addr} {mc ms : Nat} (B : sB p l s m meth c args cc nL own D cy ad) (htab : ∀ x ∈ c.exceptionTable.toList, False) (h : sH D cy ad X σ s H locs) (hcell : H[q]? = some ce) (hv : ce.vm = .none) (hcl : s.vm.findClass E = some ce.cls) (hc : cells ≤ mc) (hs : slots ≤ ms) :
    vx_W p l e R s m args below meth c H locs cells slots (sQ below args s mc ms D cy ad (.inl E) X σ) (F0 m pc ls rest) q :=
  vx_out (fun x hx => (htab x hx).elim) B.2.2.2.2.2.2.2.1 hcell hv hcl (fun t ht _ => ⟨rfl, by rw [ht]; exact h.1, h.2.F ht⟩) h.2.2.2 hc hs
/-- throw new E("text") -/
theorem sE_thr {E text : String} {ik is ic : Nat} (B : sB p l s m meth c args cc nL own D cy ad) (htab : ∀ x ∈ c.exceptionTable.toList, False) (h : sH D cy ad X σ s H locs) (hsz : nL = ls.size) (names : List String) (hcls : Bundle.fit E = true) (hnames : ∀ n ∈ names, Bundle.fit n = true) (hk : Cond.classLink own ik E ∈ sT) (hini : Cond.initialized E ∈ sT) (hstr : (own, is, text) ∈ sStrs) (hE : E ∈ sExs)
    (hg : ∀ w ∈ (vx_atS own ic E names).filter goodWord, w ∈ sT) (hng : ∀ w ∈ (vx_atS own ic E names).filter (fun w => !goodWord w), w ∈ [Cond.castable E E]) (hot : ∀ w ∈ vx_atS own ic E names, vx_ot w = true)
    (d0 : decode cc pc = .ok (.new ik, 3)) (d3 : decode cc (pc + 3) = .ok (.dup, 1)) (d4 : decode cc (pc + 4) = .ok (.ldc is, 2)) (d6 : decode cc (pc + 6) = .ok (.invokespecial ic, 3)) (d9 : decode cc (pc + 9) = .ok (.athrow, 1))
    (hRf : names.length + 3 < R.frames) (hRl : (rest.map fun v => v.category).sum + (13 * (names.length + 1) + 43) ≤ R.locals) (hRc : cells + 1 ≤ R.cells) (hRs : slots + 6 ≤ R.slots) {mc ms : Nat} (hc : cells + 1 ≤ mc) (hs : slots + 6 ≤ ms) :
    W p l e R s m args below meth c H locs cells slots (sQ below args s mc ms D cy ad (.inl E) X σ) (F0 m pc ls rest) := by
  obtain ⟨sa, hsa⟩ := B.2.2.2.2.2.1.2.2.2.1 _ hstr
  have hca := B.2.2.2.2.2.1.2.2.2.2.1 E hE
  have hts := B.2.2.2.2.1
  refine vx_throwS (names := names) (A := sFree ad s.heap.size) B.1 B.2.1 B.2.2.2.2.2.2.2.2 B.2.2.2.1 hcls hnames (hts _ hk) (hts _ hini) hsa (vx_hat (B := [Cond.castable E E]) (fun w hw => hts w (hg w hw)) hng (vx_c (va_Nw.use rfl hca) vx_n)) (fun w hw => ?_) B.2.2.2.2.2.1.2.1 B.2.2.2.2.2.1.2.2.1 h.2 (hsz.symm.trans B.2.2.1.symm) d0 d3 d4 d6 d9 (fun x hx => (htab x hx).elim) hRf hRl hRc hRs B.2.2.2.2.2.2.2.1 (fun t _ hz hq => ⟨rfl, ?_, ?_⟩) h.2.2.2 hc hs
  · rcases List.mem_cons.mp hw with rfl | hw
    · rfl
    · rcases List.mem_cons.mp hw with rfl | hw
      · rfl
      · exact hot w hw
  · exact h.1.kept (fun k q hk => hq q.1 (h.1 k q hk).lt)
  · exact ⟨Nat.le_trans h.2.1 hz, fun q h1 h2 => (hq q (Nat.lt_of_lt_of_le h1 h.2.1)).trans (h.2.2.1 q h1 h2)⟩
/-- checks that the functions make -/
def inb (i : Int32) (n : Nat) : Bool := decide (0 ≤ i.toInt) && decide (i.toInt < n)
theorem inb_in {i : Int32} {n : Nat} (h : inb i n = true) : vp_in i n := by
  simp only [inb, Bool.and_eq_true, decide_eq_true_eq] at h
  exact vp_in_iff.mpr h
theorem inb_nI {k n : Nat} (h : k < n) (hn : n < 2 ^ 31) : inb (nI k) n = true := by
  have e := nI_toInt (n := k) (by omega)
  simp only [inb, Bool.and_eq_true, decide_eq_true_eq, e]
  omega
/-- the bounds of a copy of n elements, from sp of n0 to dp of n1 -/
def cpb (sp dp n : Int32) (n0 n1 : Nat) : Bool := decide (0 ≤ sp.toInt) && decide (0 ≤ dp.toInt) && decide (0 ≤ n.toInt) && decide (sp.toInt + n.toInt ≤ n0) && decide (dp.toInt + n.toInt ≤ n1)
theorem cpb_in {sp dp n : Int32} {n0 n1 : Nat} (h : cpb sp dp n n0 n1 = true) : ¬ sp < 0 ∧ ¬ dp < 0 ∧ ¬ n < 0 ∧ sp.toNatClampNeg + n.toNatClampNeg ≤ n0 ∧ dp.toNatClampNeg + n.toNatClampNeg ≤ n1 := by
  simp only [cpb, Bool.and_eq_true, decide_eq_true_eq] at h
  obtain ⟨⟨⟨⟨h1, h2⟩, h3⟩, h4⟩, h5⟩ := h
  have z : (0 : Int32).toInt = 0 := rfl
  refine ⟨?_, ?_, ?_, ?_, ?_⟩
  · rw [Int32.lt_iff_toInt_lt, z]; omega
  · rw [Int32.lt_iff_toInt_lt, z]; omega
  · rw [Int32.lt_iff_toInt_lt, z]; omega
  · show sp.toInt.toNat + n.toInt.toNat ≤ n0; omega
  · show dp.toInt.toNat + n.toInt.toNat ≤ n1; omega
/-- a check ahead of what follows -/
def chk {α : Type} (b : Bool) (k : Option α) : Option α := if b = true then k else none
theorem chk_some {α : Type} {b : Bool} {k : Option α} {r : α} (h : chk b k = some r) : b = true ∧ k = some r := by
  unfold chk at h
  split at h
  · exact ⟨by assumption, h⟩
  · cases h
theorem chk_true {α : Type} {b : Bool} {k : Option α} (h : b = true) : chk b k = k := by unfold chk; rw [if_pos h]
/-- 0 or 1 -/
def isb (x : Int32) : Bool := decide (x = 0) || decide (x = 1)
theorem isb_n {x : Int32} (h : isb x = true) : narrow .boolean (.int x) = .int x := by
  simp only [isb, Bool.or_eq_true, decide_eq_true_eq] at h
  rcases h with rfl | rfl <;> rfl
theorem isb_f {x : Int32} (_ : isb x = true) : fits .boolean (.int x) = true := by
  simp only [isb, Bool.or_eq_true, decide_eq_true_eq] at *
  rcases (by assumption : x = 0 ∨ x = 1) with rfl | rfl <;> rfl
end ROWS
end
