/-! THE CONSTRUCTORS: rows over a growing list of cells -/
abbrev iX : sX := (fun _ => 0, fun _ => 0)
def iEnv (D : va_G) (cy : Nat → ClassId) (U : State) : Prop :=
  va_K D sCl [(cy 0, .int), (cy 1, .char), (cy 2, .boolean)] U ∧ (∀ q ∈ sNest, va_Nw (.methodLinkNest q.1 q.2.1 q.2.2.1 q.2.2.2) U) ∧ va_AO RX2 U ∧ va_AO RX3 U ∧ va_AO RX1 U
theorem iEnv.moved {D : va_G} {cy : Nat → ClassId} {s U : State} (hW : s.WarmedH U.vm) (h : iEnv D cy s) : iEnv D cy U :=
  ⟨va_K.moved hW.alike h.1, fun q hq => va_Nw.warmM hW (h.2.1 q hq), va_AO.moved hW.alike h.2.2.1, va_AO.moved hW.alike h.2.2.2.1, va_AO.moved hW.alike h.2.2.2.2⟩
theorem iEnv.calling {D : va_G} {cy : Nat → ClassId} {U : State} {g : JFrame} {mk : MethodId} {a : Array Value} (h : iEnv D cy U) : iEnv D cy (U.calling g mk a) :=
  ⟨va_K.moved (u := U) (U := U.calling g mk a) (Vm.Alike.refl U.vm) h.1, fun q hq => va_Nw.same (u := U) rfl rfl (h.2.1 q hq), va_AO.moved (u := U) (U := U.calling g mk a) (Vm.Alike.refl U.vm) h.2.2.1, va_AO.moved (u := U) (U := U.calling g mk a) (Vm.Alike.refl U.vm) h.2.2.2.1, va_AO.moved (u := U) (U := U.calling g mk a) (Vm.Alike.refl U.vm) h.2.2.2.2⟩
/-- a constructor's contract: from its own cell with e0 to the cells w1 -/
def iMet (l : Launch) (y : MethodName) (cc : ByteArray) (nL fr lo mc ms : Nat) (D : va_G) (cy : Nat → ClassId) (h : Nat) (e0 : va_E) (S : Type) (w1 : S → va_W) (t1 : S → List (ClassId × FieldType)) : Prop :=
  ∀ sz : Nat, Met l y (sWs y cc nL none) { frames := fr, cells := mc, slots := ms, locals := lo } (va_Pc [.ref h] (fun U => U.heap.size = sz ∧ va_P D sCl [(h, e0)] U.heap ∧ iEnv D cy U)) (va_Qv (fun _ : S => True) (fun u t => va_P D sCl (w1 u) t.heap ∧ va_D (va_A [(h, e0)] sz) (w1 u) ∧ va_K D sCl (t1 u) t) (va_A [(h, e0)] sz)) mc ms (va_A [(h, e0)] sz)
def iB (p : Program) (s : State) (m : MethodId) (c : Code) (args : Array Value) (cc : ByteArray) (nL : Nat) (own : String) (D : va_G) (cy : Nat → ClassId) : Prop :=
  p.tables.exec = Jvm.exec ∧ c.code = cc ∧ c.maxLocals = nL ∧ s.vm.findClass own = some m.cls ∧ (∀ w ∈ sT, w.before args s = true) ∧ iEnv D cy s
def iH (D : va_G) (A : Nat → Prop) (s : State) (ws : va_W) (tys : List (ClassId × FieldType)) (H : Heap) (locs : List Loc) : Prop :=
  va_P D sCl ws H ∧ va_D A ws ∧ va_S A s.heap H locs ∧ va_K D sCl tys s
theorem i_one {A : Nat → Prop} {h : Nat} {e0 : va_E} (hA : A h) : va_D A [(h, e0)] := by
  refine ⟨fun i j p q hp hq _ => ?_, fun k q hq => ?_⟩
  · have h1 : i < 1 := (List.getElem?_eq_some_iff.mp hp).1
    have h2 : j < 1 := (List.getElem?_eq_some_iff.mp hq).1
    omega
  · rw [List.mem_singleton.mp (List.mem_of_getElem? hq)]
    exact hA
theorem iMet_of {l : Launch} {y : MethodName} {cc : ByteArray} {nL fr lo mc ms : Nat} {D : va_G} {cy : Nat → ClassId} {h : Nat} {e0 : va_E} {S : Type} {w1 : S → va_W} {t1 : S → List (ClassId × FieldType)} (hy : plainName y.cls = true) (hn : 1 ≤ nL) (hnm : y.name = "<init>")
    (body : ∀ (p : Program) (e : Env) (s : State) (m : MethodId) (args : Array Value) (below : List Frame) (meth : Method) (c : Code) (ls : Array Slot) (A : Nat → Prop) (Q : State → Prop), (∀ q, s.heap.size ≤ q → A q) → iB p s m c args cc nL y.cls D cy → meth.name = "<init>" → lv_has ls nL [(0, .ref h)] → iH D A s [(h, e0)] [] s.heap [] →
      (∀ (H : Heap) (locs : List Loc) (u : S) (ls : Array Slot) (pc : Nat), iH D A s (w1 u) (t1 u) H locs → decode cc pc = .ok (.return_, 1) → W p l e { frames := fr, cells := mc, slots := ms, locals := lo } s m args below meth c H locs mc ms Q (F0 m pc ls [])) →
      W p l e { frames := fr, cells := mc, slots := ms, locals := lo } s m args below meth c s.heap [] 0 0 Q (F0 m 0 ls [])) : iMet l y cc nL fr lo mc ms D cy h e0 S w1 t1 := by
  intro sz
  refine Met.ofW (cc := cc) (maxL := nL) (ret := none) hy rfl ?_
  intro p e s m args below meth c s₁ B hml hv
  obtain ⟨rfl, hsz, hP, hE⟩ := hv
  subst hsz
  have hts := atoms_spec (ws := sWs y cc nL none) B.pre
  have hown : s.vm.findClass y.cls = some m.cls := findClass_of_methodNamed B.named
  rw [lg_entry_eq]
  have hlen : (lg_sl [Value.ref h]).length ≤ nL := hn
  refine body p e s m _ below meth c _ (va_A [(h, e0)] s.heap.size) _ (fun q hq => Or.inr hq) ⟨B.exec, B.bytes, hml, hown, fun w hw => hts w (List.mem_cons_of_mem _ hw), hE⟩ ((name_of_methodNamed B.named B.method).1.trans hnm) (lv_entry [.ref h] hlen) ⟨hP, i_one (Or.inl ⟨0, e0, rfl⟩), va_S.rf, ⟨hE.1.1, fun k q hk => by simp at hk⟩⟩ (fun H locs u ls pc hH hdg => ?_)
  exact W.vret B.exec B.bytes B.returns (fun t ht hW => ⟨⟨u, rfl, trivial, by rw [ht]; exact hH.1, hH.2.1, va_K.moved hW.alike hH.2.2.2⟩, hH.2.2.1.F ht⟩) hH.2.2.1.2.2 hdg B.notSynchronized
theorem nd_range' : ∀ (n k : Nat), va_nd (List.range' k n) = true := by
  intro n
  induction n with
  | zero => intro k; rfl
  | succ n ih =>
    intro k
    show (decide (k ∉ List.range' (k + 1) n) && va_nd (List.range' (k + 1) n)) = true
    rw [ih (k + 1), Bool.and_true, decide_eq_true_eq, List.mem_range'_1]
    omega
theorem nd_range (n : Nat) : va_nd (List.range n) = true := by
  rw [List.range_eq_range']; exact nd_range' n 0
theorem last_at {ws : va_W} {x : Nat × va_E} {r : va_W} : (ws ++ x :: r)[ws.length]? = some x := by
  rw [List.getElem?_append_right (Nat.le_refl _), Nat.sub_self]; rfl
theorem rest_at {ws r : va_W} : (List.range ws.length).map (fun i => (ws ++ r)[i]?) = ws.map some := by
  apply List.ext_getElem?
  intro j
  rw [List.getElem?_map, List.getElem?_map]
  by_cases hj : j < ws.length
  · rw [List.getElem?_range hj, Option.map_some, List.getElem?_append_left hj, List.getElem?_eq_getElem hj]
    rfl
  · rw [List.getElem?_eq_none (by rw [List.length_range]; omega), List.getElem?_eq_none (by omega)]
    rfl
section IROWS
variable {p : Program} {l : Launch} {e : Env} {R : Room} {s : State} {m : MethodId} {args : Array Value} {below : List Frame} {meth : Method} {c : Code} {H : Heap} {locs : List Loc} {cells slots : Nat} {Q : State → Prop} {cc : ByteArray} {nL : Nat} {own : String} {D : va_G} {cy : Nat → ClassId} {A : Nat → Prop} {ws : va_W} {tys : List (ClassId × FieldType)} {pc : Nat} {ls : Array Slot} {rest : List Value}
theorem i_new (B : iB p s m c args cc nL own D cy) (h : iH D A s ws tys H locs) (hA : ∀ q, s.heap.size ≤ q → A q) {C : String} {T : u_T} {N ci index : Nat} (hin : ∀ w ∈ u_ws C T N, w ∈ sT) (ty : Nat → FieldType) (hty : ∀ k, k < N → parseFieldDescriptor (T k).2.2.1 = some (ty k)) (hcl : Cond.classLink own index C ∈ sT) (hinst : Cond.instantiable C N ∈ sT) (hini : Cond.initialized C ∈ sT) (hc : sCl[ci]? = some (C, T, N)) {fs : List Value} (hfs : ∀ j, j < N → defaultValue (ty j) = vp_V fs j) (hcells : cells + 1 ≤ R.cells) (hslots : slots + N ≤ R.slots) (hdg : decode cc pc = .ok (.new index, 3))
    (kk : ∀ (q : Nat) (H1 : Heap), iH D A s (ws ++ [(q, .inr (ci, fs))]) tys H1 locs → W p l e R s m args below meth c H1 locs (cells + 1) (slots + N) Q (F0 m (pc + 3) ls (.ref q :: rest))) : W p l e R s m args below meth c H locs cells slots Q (F0 m pc ls rest) :=
  va_new (c0 := c) B.1 B.2.1 B.2.2.2.2.1 hin ty hty B.2.2.2.1 (B.2.2.2.2.1 _ hcl) (B.2.2.2.2.1 _ hinst) (B.2.2.2.2.1 _ hini) h.2.2.2 h.1 h.2.1 h.2.2.1 hA hc hfs hcells hslots hdg (fun q H1 hP hD hS => kk q H1 ⟨hP, hD, hS, h.2.2.2⟩)
theorem i_newa (B : iB p s m c args cc nL own D cy) (h : iH D A s ws tys H locs) (hA : ∀ q, s.heap.size ≤ q → A q) (t : Nat) {atype : ArrayType} {ty : FieldType} {cA : ClassId} (hty : newarray.typeOf atype = ty) (ht : [(cy 0, FieldType.int), (cy 1, .char), (cy 2, .boolean)][t]? = some (cA, ty)) (hra : ∀ (U : State) (cB : ClassId), va_RA U cB ty → U.vm.findClass ("[" ++ ty.toString) = some cB) (hdef : defaultValue ty = .int 0) (harr : Cond.arrayClass ty ∈ sT)
    {n : Int32} {N' : Nat} (hn : ¬ n < 0) (hN : n.toNatClampNeg = N') (hbytes : N' * componentBytes ty ≤ 536870912) (hcells : cells + 1 ≤ R.cells) (hslots : slots + N' ≤ R.slots) (hdg : decode cc pc = .ok (.newarray atype, 2))
    (kk : ∀ (q : Nat) (H1 : Heap), iH D A s (ws ++ [(q, sInt cA N' (fun _ => 0))]) tys H1 locs → W p l e R s m args below meth c H1 locs (cells + 1) (slots + N') Q (F0 m (pc + 2) ls (.ref q :: rest))) : W p l e R s m args below meth c H locs cells slots Q (F0 m pc ls (.int n :: rest)) := by
  refine va_newa (a0 := (N', .inl (fun _ => 0))) B.1 B.2.1 (by rw [hty]; exact B.2.2.2.2.1 _ harr) hty h.2.2.2 h.1 h.2.1 h.2.2.1 hA (fun cB => by rw [vp_cell_i, hdef]) hn hN hbytes hcells hslots hdg (fun q cB H1 hK hP hD hS => ?_)
  have e1 := hra s cB (hK.2 tys.length (cB, ty) (by rw [List.getElem?_append_right (Nat.le_refl _), Nat.sub_self]; rfl)).2
  have e2 := hra s cA (B.2.2.2.2.2.1.2 t (cA, ty) ht).2
  have e3 : cB = cA := Option.some.inj (e1.symm.trans e2)
  rw [e3] at hP hD
  exact kk q H1 ⟨hP, hD, hS, h.2.2.2⟩
theorem i_newq (B : iB p s m c args cc nL own D cy) (h : iH D A s ws tys H locs) (hA : ∀ q, s.heap.size ≤ q → A q) {C : String} {index : Nat} (hcl : Cond.classLink own index C ∈ sT) (hao : va_AO C s) {n : Int32} {N' : Nat} (hn : ¬ n < 0) (hN : n.toNatClampNeg = N') (hbytes : N' * 4 ≤ 536870912) (hcells : cells + 1 ≤ R.cells) (hslots : slots + N' ≤ R.slots) (hdg : decode cc pc = .ok (.anewarray index, 3))
    (kk : ∀ (q : Nat) (cA : ClassId) (H1 : Heap), iH D A s (ws ++ [(q, .inl (cA, N', .inr (.inr (.inr (.inr (fun _ => none))))))]) (tys ++ [(cA, .object C)]) H1 locs → W p l e R s m args below meth c H1 locs (cells + 1) (slots + N') Q (F0 m (pc + 3) ls (.ref q :: rest))) : W p l e R s m args below meth c H locs cells slots Q (F0 m pc ls (.int n :: rest)) :=
  va_newq B.1 B.2.1 B.2.2.2.1 (B.2.2.2.2.1 _ hcl) hao h.2.2.2 h.1 h.2.1 h.2.2.1 hA hn hN hbytes hcells hslots hdg (fun q cA H1 hK hP hD hS => kk q cA H1 ⟨hP, hD, hS, hK⟩)
theorem i_putF (B : iB p s m c args cc nL own D cy) (h : iH D A s ws tys H locs) (hnm : meth.name = "<init>") (q0 : Nat) {a ci : Nat} {fs : List Value} (he : ws[q0]? = some (a, .inr (ci, fs))) {T : u_T} {N index : Nat} (hc : sCl[ci]? = some (own, T, N)) (hin : ∀ w ∈ u_ws own T N, w ∈ sT) (ty0 : Nat → FieldType) (hty : ∀ k, k < N → parseFieldDescriptor (T k).2.2.1 = some (ty0 k)) (hnd : ∀ a, a < N → ∀ b, b < N → a ≠ b → (T a).2.1 ≠ (T b).2.1)
    (j : Nat) (hj : j < N) (hlink : Cond.fieldLink own index own (T j).2.1 (T j).2.2.1 ∈ sT) (hdc : (T j).1 = own) (hfin : (T j).2.2.2 = true) {v : Value} (hn : narrow (ty0 j) v = v) (hfit : fits (ty0 j) v = true) (hl : j < fs.length) (hdg : decode cc pc = .ok (.putfield index, 3))
    (kk : ∀ (H1 : Heap) (locs1 : List Loc), iH D A s (ws.set q0 (a, .inr (ci, fs.set j v))) tys H1 locs1 → W p l e R s m args below meth c H1 locs1 cells slots Q (F0 m (pc + 3) ls rest)) : W p l e R s m args below meth c H locs cells slots Q (F0 m pc ls (v :: .ref a :: rest)) :=
  va_putF (D := D) B.1 B.2.1 B.2.2.2.2.1 hin ty0 hty hnd B.2.2.2.1 h.2.2.2 h.1 h.2.1 h.2.2.1 q0 he hc j hj (B.2.2.2.2.1 _ hlink) (fun x hx => by rw [hdc] at hx; exact hx) hfin hnm hdc (hty j hj) hn hfit hl hdg
    (fun H1 locs1 hP hD hS => kk H1 locs1 ⟨hP, hD, hS, h.2.2.2⟩)
theorem i_put (B : iB p s m c args cc nL own D cy) (h : iH D A s ws tys H locs) (q0 : Nat) {a ci : Nat} {fs : List Value} (he : ws[q0]? = some (a, .inr (ci, fs))) {T : u_T} {N index : Nat} (hc : sCl[ci]? = some (own, T, N)) (hin : ∀ w ∈ u_ws own T N, w ∈ sT) (ty0 : Nat → FieldType) (hty : ∀ k, k < N → parseFieldDescriptor (T k).2.2.1 = some (ty0 k)) (hnd : ∀ a, a < N → ∀ b, b < N → a ≠ b → (T a).2.1 ≠ (T b).2.1)
    (j : Nat) (hj : j < N) (hlink : Cond.fieldLink own index own (T j).2.1 (T j).2.2.1 ∈ sT) (hdc : (T j).1 = own) (hfin : (T j).2.2.2 = false) {v : Value} (hn : narrow (ty0 j) v = v) (hfit : fits (ty0 j) v = true) (hl : j < fs.length) (hdg : decode cc pc = .ok (.putfield index, 3))
    (kk : ∀ (H1 : Heap) (locs1 : List Loc), iH D A s (ws.set q0 (a, .inr (ci, fs.set j v))) tys H1 locs1 → W p l e R s m args below meth c H1 locs1 cells slots Q (F0 m (pc + 3) ls rest)) : W p l e R s m args below meth c H locs cells slots Q (F0 m pc ls (v :: .ref a :: rest)) :=
  va_put (D := D) B.1 B.2.1 B.2.2.2.2.1 hin ty0 hty hnd B.2.2.2.1 h.2.2.2 h.1 h.2.1 h.2.2.1 q0 he hc j hj (B.2.2.2.2.1 _ hlink) (fun x hx => by rw [hdc] at hx; exact hx) hfin (hty j hj) hn hfit hl hdg
    (fun H1 locs1 hP hD hS => kk H1 locs1 ⟨hP, hD, hS, h.2.2.2⟩)
theorem i_get (B : iB p s m c args cc nL own D cy) (h : iH D A s ws tys H locs) (q0 : Nat) {a ci : Nat} {fs : List Value} (he : ws[q0]? = some (a, .inr (ci, fs))) {T : u_T} {N index : Nat} (hc : sCl[ci]? = some (own, T, N)) (hin : ∀ w ∈ u_ws own T N, w ∈ sT) (j : Nat) (hj : j < N) (hlink : Cond.fieldLink own index own (T j).2.1 (T j).2.2.1 ∈ sT) (hdc : (T j).1 = own) {v : Value} (hv : fs[j]? = some v) (hdg : decode cc pc = .ok (.getfield index, 3))
    (kk : W p l e R s m args below meth c H locs cells slots Q (F0 m (pc + 3) ls (v :: rest))) : W p l e R s m args below meth c H locs cells slots Q (F0 m pc ls (.ref a :: rest)) :=
  va_get (D := D) B.1 B.2.1 B.2.2.2.2.1 hin B.2.2.2.1 h.2.2.2 h.1 q0 he hc j hj (B.2.2.2.2.1 _ hlink) (fun x hx => by rw [hdc] at hx; exact hx) hv hdg kk
theorem i_astq (B : iB p s m c args cc nL own D cy) (h : iH D A s ws tys H locs) (q0 t0 qk ci : Nat) {cA : ClassId} {r : vw_C} {n v a : Nat} {vs : List Value} {f : Nat → Option Nat} (ha : ws[q0]? = some (a, .inl (cA, n, .inr (.inr (.inr (.inr f)))))) (ht : tys[t0]? = some (cA, .object r.1)) (hv : ws[qk]? = some (v, .inr (ci, vs))) (hc : sCl[ci]? = some r) {j : Nat} (hj : j < n) (hn : n < 2 ^ 31) (hdg : decode cc pc = .ok (.aastore, 1))
    (kk : ∀ (H1 : Heap) (locs1 : List Loc), iH D A s (ws.set q0 (a, .inl (cA, n, .inr (.inr (.inr (.inr (va_up f j (some v)))))))) tys H1 locs1 → W p l e R s m args below meth c H1 locs1 cells slots Q (F0 m (pc + 1) ls rest)) : W p l e R s m args below meth c H locs cells slots Q (F0 m pc ls (.ref v :: .int (nI j) :: .ref a :: rest)) :=
  va_astq B.1 B.2.1 h.2.2.2 h.1 h.2.1 h.2.2.1 q0 t0 qk ci ha ht hv hc (vp_in_nI hj hn) hdg
    (fun H1 locs1 hP hD hS => kk H1 locs1 (by rw [nI_clamp (by omega)] at hP hD; exact ⟨hP, hD, hS, h.2.2.2⟩))
theorem i_join {q : Nat} {e0 : va_E} (h : iH D A s (ws ++ [(q, e0)]) tys H locs) (hA : ∀ q, s.heap.size ≤ q → A q) : va_P D sCl [(q, e0)] H ∧ ∀ x, va_A [(q, e0)] H.size x → A x :=
  ⟨fun k x hx => h.1 (ws.length + k) x (by rw [List.getElem?_append_right (by omega), Nat.add_sub_cancel_left]; exact hx), va_free (wc := [(q, e0)]) h.2.1 h.2.2.1 hA [ws.length] (by rw [List.map_cons, List.map_nil, last_at]; rfl)⟩
theorem i_behind {S : Type} {mc ms q : Nat} {e0 : va_E} {w1 : S → va_W} {t1 : S → List (ClassId × FieldType)} {st0 : List Value} {a : Array Value} (h : iH D A s (ws ++ [(q, e0)]) tys H locs) (hA : ∀ q, s.heap.size ≤ q → A q)
    (hr : va_Run p l e R s m args below meth c H locs cells slots mc ms (F0 m pc ls st0) rest (va_Qv (fun _ : S => True) (fun u t => va_P D sCl (w1 u) t.heap ∧ va_D (va_A [(q, e0)] H.size) (w1 u) ∧ va_K D sCl (t1 u) t) (va_A [(q, e0)] H.size) a) (va_A [(q, e0)] H.size))
    (kk : ∀ (u : S) (H1 : Heap) (locs1 : List Loc), iH D A s (ws ++ w1 u) tys H1 locs1 → va_K D sCl (t1 u) s → W p l e R s m args below meth c H1 locs1 (cells + mc) (slots + ms) Q (F0 m (pc + 3) ls rest)) : W p l e R s m args below meth c H locs cells slots Q (F0 m pc ls st0) := by
  obtain ⟨hPc, hFc⟩ := i_join h hA
  refine va_callv hr h.2.2.1 (fun q _ h => hFc q h) hFc (fun u t H1 locs1 ht hvm _ hB hz1 hk1 hS => ?_)
  obtain ⟨hP1, hD1, hK1⟩ := hB
  rw [ht] at hP1
  obtain ⟨hP, hD⟩ := va_join (wc := [(q, e0)]) (wr := ws) (w1 := w1 u) h.1 h.2.1 [ws.length] (List.range ws.length) (by rw [List.map_cons, List.map_nil, last_at]; rfl) rest_at (nd_range _) (fun i hi hc => by
    have := List.mem_range.mp hi
    have := List.mem_singleton.mp hc
    omega) hk1 hFc hP1 hD1
  exact kk u H1 locs1 ⟨hP, hD, hS, h.2.2.2⟩ (va_K.moved hvm.symm hK1)
/-- a nest mate's constructor -/
theorem i_nest {S : Type} {y : MethodName} {bytes : ByteArray} {maxL fr lo mc ms q index : Nat} {host : String} {e0 : va_E} {w1 : S → va_W} {t1 : S → List (ClassId × FieldType)} (B : iB p s m c args cc nL own D cy) (h : iH D A s (ws ++ [(q, e0)]) tys H locs) (hA : ∀ q, s.heap.size ≤ q → A q) (hM : iMet l y bytes maxL fr lo mc ms D cy q e0 S w1 t1) (hw1 : Cond.code y bytes maxL none ∈ sT) (hw2 : (own, index, y, host) ∈ sNest) (hw3 : Cond.initialized y.cls ∈ sT) (hw4 : Cond.instanceMethod y ∈ sT) (hnm : y.name = "<init>") (hd : y.cls ≠ "java/lang/invoke/MethodHandle" ∧ y.cls ≠ "java/lang/invoke/VarHandle" ∧ (parseMethodDescriptor y.desc).map (fun d => d.parameters.length) = some 0) (hR : fr + 1 ≤ R.frames ∧ 8 + (maxL + 11) + lo ≤ R.locals) (hsz : ls.size = nL) (hcat : (rest.map fun v => v.category).sum ≤ 8) (hdg : decode cc pc = .ok (.invokespecial index, 3)) (hf : cells + mc ≤ R.cells ∧ slots + ms ≤ R.slots)
    (kk : ∀ (u : S) (H1 : Heap) (locs1 : List Loc), iH D A s (ws ++ w1 u) tys H1 locs1 → va_K D sCl (t1 u) s → W p l e R s m args below meth c H1 locs1 (cells + mc) (slots + ms) Q (F0 m (pc + 3) ls rest)) : W p l e R s m args below meth c H locs cells slots Q (F0 m pc ls (.ref q :: rest)) :=
  i_behind h hA (va_runIN (As := []) (rest := rest) (Ts := sT) ⟨B.1, B.2.1, B.2.2.1, B.2.2.2.1, B.2.2.2.2.1⟩ (hM H.size) ⟨va_cnB (rm := { frames := fr, cells := mc, slots := ms, locals := lo }) 0 B.2.2.2.2.1 (sGood hw1) rfl rfl rfl (B.2.2.2.2.2.2.1 _ hw2) (B.2.2.2.2.1 _ hw3) hd hR, hnm, B.2.2.2.2.1 _ hw4⟩
    ⟨fun a U g mk z => ⟨z.1, z.2.1, z.2.2.1, z.2.2.2.calling⟩, fun U hU hW => ⟨rfl, by rw [hU], by rw [hU]; exact (i_join h hA).1, iEnv.moved hW B.2.2.2.2.2⟩⟩ rfl rfl hsz rfl (lv_room hcat) hdg hf) kk
/-- a public constructor -/
theorem i_publ {S : Type} {y : MethodName} {bytes : ByteArray} {maxL fr lo mc ms q index : Nat} {e0 : va_E} {w1 : S → va_W} {t1 : S → List (ClassId × FieldType)} (B : iB p s m c args cc nL own D cy) (h : iH D A s (ws ++ [(q, e0)]) tys H locs) (hA : ∀ q, s.heap.size ≤ q → A q) (hM : iMet l y bytes maxL fr lo mc ms D cy q e0 S w1 t1) (hw : sCall own index y bytes maxL none 0) (hw4 : Cond.instanceMethod y ∈ sT) (hnm : y.name = "<init>") (hR : fr + 1 ≤ R.frames ∧ 8 + (maxL + 11) + lo ≤ R.locals) (hsz : ls.size = nL) (hcat : (rest.map fun v => v.category).sum ≤ 8) (hdg : decode cc pc = .ok (.invokespecial index, 3)) (hf : cells + mc ≤ R.cells ∧ slots + ms ≤ R.slots)
    (kk : ∀ (u : S) (H1 : Heap) (locs1 : List Loc), iH D A s (ws ++ w1 u) tys H1 locs1 → va_K D sCl (t1 u) s → W p l e R s m args below meth c H1 locs1 (cells + mc) (slots + ms) Q (F0 m (pc + 3) ls rest)) : W p l e R s m args below meth c H locs cells slots Q (F0 m pc ls (.ref q :: rest)) :=
  i_behind h hA (va_runI (As := []) (rest := rest) (Ts := sT) ⟨B.1, B.2.1, B.2.2.1, B.2.2.2.1, B.2.2.2.2.1⟩ (hM H.size) ⟨sCallB (args := args) B.2.2.2.2.1 hw hR, hnm, B.2.2.2.2.1 _ hw4⟩
    ⟨fun a U g mk z => ⟨z.1, z.2.1, z.2.2.1, z.2.2.2.calling⟩, fun U hU hW => ⟨rfl, by rw [hU], by rw [hU]; exact (i_join h hA).1, iEnv.moved hW B.2.2.2.2.2⟩⟩ rfl rfl hsz rfl (lv_room hcat) hdg hf) kk
theorem i_obj (B : iB p s m c args cc nL own D cy) {idx a : Nat} (hlink : Cond.methodLink own idx Lib.objectInit ∈ sT) (hinst : Cond.instanceMethod Lib.objectInit ∈ sT) (hcode : Cond.code Lib.objectInit ⟨#[0xb1]⟩ 1 none ∈ sT) (hsz : ls.size = nL) (hdg : decode cc pc = .ok (.invokespecial idx, 3)) (hframes : 1 ≤ R.frames) (hlocals : 12 ≤ R.locals)
    (kk : W p l e R s m args below meth c H locs cells slots Q (F0 m (pc + 3) ls [])) : W p l e R s m args below meth c H locs cells slots Q (F0 m pc ls [.ref a]) :=
  W.objInit B.1 B.2.1 B.2.2.2.1 (B.2.2.2.2.1 _ hlink) (B.2.2.2.2.1 _ hinst) (B.2.2.2.2.1 _ hcode) rfl (by rw [B.2.2.1]; exact hsz) rfl hdg hframes hlocals kk
end IROWS
