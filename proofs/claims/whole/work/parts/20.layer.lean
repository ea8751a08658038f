/-! THE ROOM OF CELLS: 63 cells at the addresses ad 0 .. ad 62. What they hold: σ, a row of ints for each cell (an object's number fields by their places, an array's elements), X the law's own two rows. 0 Spanwarden, 1..3 its rows of references, 4 Bench, 5 drainedKeys, 6+3t Table t (0..2 maps, 3 keySet, 4 left, 5 right) with keys, values behind it, 24+v View v, 28+4h History h (0..2, 3 turned) with kinds, keys, numbers behind it, 44 SpanwardenModel, 45..60 its rows, 61, 62 the law's rows -/
abbrev sM : Type := Nat → Nat → Int32
abbrev sX : Type := (Nat → Int64) × (Nat → UInt64)
abbrev sCl : List vw_C := [(RX0, TX0, 4), (RX1, TX1, 4), (RX2, TX2, 3), (RX3, TX3, 6), (RX4, TX4, 8), (RX5, TX5, 21)]
def sTys (cy : Nat → ClassId) : List (ClassId × FieldType) := [(cy 0, .int), (cy 1, .char), (cy 2, .boolean), (cy 3, .object RX2), (cy 4, .object RX3), (cy 5, .object RX1), (cy 6, .long), (cy 7, .double)]
/-- the Table that a View's source names: its cell's number, 0 for null -/
def sSrc (x : Int32) : Option Nat := if x = 6 then some 6 else if x = 9 then some 9 else if x = 12 then some 12 else if x = 15 then some 15 else if x = 18 then some 18 else if x = 21 then some 21 else none
def sTab (ad : Nat → Nat) (k : Nat) (f : Nat → Int32) : va_E := .inr (2, [.ref (ad (k + 1)), .ref (ad (k + 2)), .int (f 2)])
def sVie (ad : Nat → Nat) (f : Nat → Int32) : va_E := .inr (3, [va_rf ((sSrc (f 0)).map ad), .int (f 1), .int (f 2), .int (f 3), .int (f 4), .int (f 5)])
def sHis (ad : Nat → Nat) (k : Nat) (f : Nat → Int32) : va_E := .inr (1, [.int (f 0), .ref (ad (k + 1)), .ref (ad (k + 2)), .ref (ad (k + 3))])
def sInt (c : ClassId) (n : Nat) (f : Nat → Int32) : va_E := .inl (c, n, .inl f)
def sRow (cy : Nat → ClassId) (ad : Nat → Nat) (X : sX) (k : Nat) (f : Nat → Int32) : va_E := match k with
  | 0 => .inr (4, [.ref (ad 1), .ref (ad 2), .ref (ad 3), .ref (ad 4), .ref (ad 5), .int (f 5), .int (f 6), .int (f 7)])
  | 1 => .inl (cy 3, 3, .inr (.inr (.inr (.inr (va_up (va_up (va_up (fun _ => none) 0 (some (ad 6))) 1 (some (ad 9))) 2 (some (ad 12)))))))
  | 2 => .inl (cy 4, 4, .inr (.inr (.inr (.inr (va_up (va_up (va_up (va_up (fun _ => none) 0 (some (ad 24))) 1 (some (ad 25))) 2 (some (ad 26))) 3 (some (ad 27)))))))
  | 3 => .inl (cy 5, 3, .inr (.inr (.inr (.inr (va_up (va_up (va_up (fun _ => none) 0 (some (ad 28))) 1 (some (ad 32))) 2 (some (ad 36)))))))
  | 4 => .inr (0, [.ref (ad 15), .ref (ad 18), .ref (ad 21), .ref (ad 40)])
  | 5 => sInt (cy 0) 60 f
  | 6 => sTab ad 6 f
  | 7 => sInt (cy 0) 120 f
  | 8 => sInt (cy 0) 120 f
  | 9 => sTab ad 9 f
  | 10 => sInt (cy 0) 120 f
  | 11 => sInt (cy 0) 120 f
  | 12 => sTab ad 12 f
  | 13 => sInt (cy 0) 120 f
  | 14 => sInt (cy 0) 120 f
  | 15 => sTab ad 15 f
  | 16 => sInt (cy 0) 120 f
  | 17 => sInt (cy 0) 120 f
  | 18 => sTab ad 18 f
  | 19 => sInt (cy 0) 120 f
  | 20 => sInt (cy 0) 120 f
  | 21 => sTab ad 21 f
  | 22 => sInt (cy 0) 120 f
  | 23 => sInt (cy 0) 120 f
  | 24 => sVie ad f
  | 25 => sVie ad f
  | 26 => sVie ad f
  | 27 => sVie ad f
  | 28 => sHis ad 28 f
  | 29 => sInt (cy 1) 30 f
  | 30 => sInt (cy 0) 30 f
  | 31 => sInt (cy 0) 30 f
  | 32 => sHis ad 32 f
  | 33 => sInt (cy 1) 30 f
  | 34 => sInt (cy 0) 30 f
  | 35 => sInt (cy 0) 30 f
  | 36 => sHis ad 36 f
  | 37 => sInt (cy 1) 30 f
  | 38 => sInt (cy 0) 30 f
  | 39 => sInt (cy 0) 30 f
  | 40 => sHis ad 40 f
  | 41 => sInt (cy 1) 30 f
  | 42 => sInt (cy 0) 30 f
  | 43 => sInt (cy 0) 30 f
  | 44 => .inr (5, [.ref (ad 45), .ref (ad 46), .ref (ad 47), .ref (ad 48), .ref (ad 49), .ref (ad 50), .ref (ad 51), .ref (ad 52), .ref (ad 53), .ref (ad 54), .ref (ad 55), .ref (ad 56), .ref (ad 57), .ref (ad 58), .ref (ad 59), .int (f 15), .ref (ad 60), .int (f 17), .int (f 18), .int (f 19), .int (f 20)])
  | 45 => sInt (cy 0) 180 f
  | 46 => sInt (cy 0) 180 f
  | 47 => sInt (cy 0) 3 f
  | 48 => sInt (cy 2) 4 f
  | 49 => sInt (cy 0) 4 f
  | 50 => sInt (cy 0) 4 f
  | 51 => sInt (cy 0) 4 f
  | 52 => sInt (cy 2) 4 f
  | 53 => sInt (cy 2) 4 f
  | 54 => sInt (cy 0) 4 f
  | 55 => sInt (cy 1) 90 f
  | 56 => sInt (cy 0) 90 f
  | 57 => sInt (cy 0) 90 f
  | 58 => sInt (cy 0) 3 f
  | 59 => sInt (cy 0) 60 f
  | 60 => sInt (cy 0) 60 f
  | 61 => .inl (cy 6, 1, .inr (.inl X.1))
  | _ => .inl (cy 7, 1, .inr (.inr (.inr (.inl X.2))))
def isT (k : Nat) : Prop := k = 6 ∨ k = 9 ∨ k = 12 ∨ k = 15 ∨ k = 18 ∨ k = 21
def isV (k : Nat) : Prop := k = 24 ∨ k = 25 ∨ k = 26 ∨ k = 27
def isH (k : Nat) : Prop := k = 28 ∨ k = 32 ∨ k = 36 ∨ k = 40
def sW (cy : Nat → ClassId) (ad : Nat → Nat) (X : sX) (σ : sM) : va_W := (List.range 63).map (fun k => (ad k, sRow cy ad X k (σ k)))
theorem sW_at {cy : Nat → ClassId} {ad : Nat → Nat} {X : sX} {σ : sM} {k : Nat} (hk : k < 63) : (sW cy ad X σ)[k]? = some (ad k, sRow cy ad X k (σ k)) := by
  simp only [sW, List.getElem?_map, List.getElem?_range hk, Option.map_some]
theorem sW_len {cy : Nat → ClassId} {ad : Nat → Nat} {X : sX} {σ : sM} : (sW cy ad X σ).length = 63 := by
  simp only [sW, List.length_map, List.length_range]
theorem sW_out {cy : Nat → ClassId} {ad : Nat → Nat} {X : sX} {σ : sM} {k : Nat} {q : Nat × va_E} (h : (sW cy ad X σ)[k]? = some q) : k < 63 ∧ q = (ad k, sRow cy ad X k (σ k)) := by
  have hk : k < 63 := by
    have := (List.getElem?_eq_some_iff.mp h).1
    rwa [sW_len] at this
  exact ⟨hk, (Option.some.inj ((sW_at hk).symm.trans h)).symm⟩
theorem sW_set {cy : Nat → ClassId} {ad : Nat → Nat} {X : sX} {σ : sM} {k : Nat} (hk : k < 63) (f : Nat → Int32) : (sW cy ad X σ).set k (ad k, sRow cy ad X k f) = sW cy ad X (va_up σ k f) := by
  apply List.ext_getElem?
  intro j
  by_cases hj : j < 63
  · rw [sW_at hj]
    by_cases e : j = k
    · subst e
      rw [List.getElem?_set_self (by rw [sW_len]; exact hj)]
      simp only [va_up, if_pos]
    · rw [List.getElem?_set_ne (Ne.symm e), sW_at hj]
      simp only [va_up, if_neg e]
  · rw [List.getElem?_eq_none (by rw [List.length_set, sW_len]; omega), List.getElem?_eq_none (by rw [sW_len]; omega)]
theorem sW_setX {cy : Nat → ClassId} {ad : Nat → Nat} {X X' : sX} {σ : sM} {k : Nat} (hk : k < 63) (ho : ∀ j, j ≠ k → ∀ f, sRow cy ad X' j f = sRow cy ad X j f) : (sW cy ad X σ).set k (ad k, sRow cy ad X' k (σ k)) = sW cy ad X' σ := by
  apply List.ext_getElem?
  intro j
  by_cases hj : j < 63
  · rw [sW_at hj]
    by_cases e : j = k
    · subst e
      rw [List.getElem?_set_self (by rw [sW_len]; exact hj)]
    · rw [List.getElem?_set_ne (Ne.symm e), sW_at hj, ho j e]
  · rw [List.getElem?_eq_none (by rw [List.length_set, sW_len]; omega), List.getElem?_eq_none (by rw [sW_len]; omega)]
def sAp (ad : Nat → Nat) : Prop := ∀ i j : Nat, i < 63 → j < 63 → ad i = ad j → i = j
def sFree (ad : Nat → Nat) (sz : Nat) : Nat → Prop := fun q => (∃ k, k < 63 ∧ q = ad k) ∨ sz ≤ q
theorem sD {cy : Nat → ClassId} {ad : Nat → Nat} {X : sX} {σ : sM} {sz : Nat} (h : sAp ad) : va_D (sFree ad sz) (sW cy ad X σ) := by
  refine ⟨fun i j p q hp hq e => ?_, fun k q hq => ?_⟩
  · obtain ⟨hi, rfl⟩ := sW_out hp
    obtain ⟨hj, rfl⟩ := sW_out hq
    exact h i j hi hj e
  · obtain ⟨hk, rfl⟩ := sW_out hq
    exact Or.inl ⟨k, hk, rfl⟩
/-- the words that every method has -/
def sT : List Cond := lw_tbl.filter goodWord
theorem sT_of {w : Cond} (h : w ∈ tables_1) (g : goodWord w = true) : w ∈ sT := List.mem_filter.mpr ⟨List.mem_append_right _ h, g⟩
theorem sT_p {w : Cond} (h : w ∈ k2_sels lw_privs) (g : goodWord w = true) : w ∈ sT := List.mem_filter.mpr ⟨List.mem_append_left _ h, g⟩
theorem sT_good {w : Cond} (h : w ∈ sT) : goodWord w = true := (List.mem_filter.mp h).2
/-- the texts of exceptions, as the class file holds them -/
def sStrs : List (String × Nat × String) := [(RX4, 278, "no such map"), (RX4, 292, "the map is full"), (RX4, 59, "the map has no such key"), (RX4, 77, "no such way"), (RX4, 84, "the map has no such near key"), (RX4, 290, "there are no entries"), (RX4, 101, "no entry was polled"), (RX4, 111, "no such place in the row"), (RX4, 114, "no such place in the map"), (RX4, 280, "no such view"), (RX4, 124, "the span ends below where it begins"), (RX4, 288, "the view is not open"), (RX4, 141, "the number does not lie in the span"), (RX4, 148, "no more cuts behind one another"), (RX4, 159, "the key does not lie in the span"), (RX4, 168, "the view has no such near key"), (RX4, 282, "no such history"), (RX4, 181, "no such kind"), (RX4, 184, "the history is full"), (RX4, 194, "the map and the keys of the history are too many"), (RX4, 199, "the map and the keys of both are too many"), (RX4, 216, "no such way, or a map with itself"), (RX4, 221, "both maps together are too many"), (RX4, 230, "no mean of no keys")]
/-- constructors that the tables say are declared -/
def sDecl : List MethodName := [Bundle.initS "java/lang/RuntimeException", Bundle.initS "java/lang/Exception", Bundle.initS Bundle.tN]
def sExs : List String := ["java/lang/IndexOutOfBoundsException", "java/lang/IllegalStateException", "java/lang/IllegalArgumentException", "java/util/NoSuchElementException", "java/lang/ArithmeticException"]
def sNest : List (String × Nat × MethodName × String) := [(RX0, 11, yX2_init, RX4), (RX0, 26, yX1_init, RX4), (RX4, 29, yX0_init, RX4), (RX4, 38, yX2_init, RX4), (RX4, 39, yX3_init, RX4), (RX4, 40, yX1_init, RX4), (RX2, 67, yX4_chain, RX4), (RX3, 63, yX4_chain, RX4), (RX1, 36, yX4_chain, RX4)]
/-- what holds of the machine's tables and of the JDK's cells at every state of the run -/
def sEnv (D : va_G) (cy : Nat → ClassId) (A : Nat → Prop) (U : State) (H : Heap) : Prop :=
  va_K D sCl (sTys cy) U ∧ vx_Zq Bundle.tN "UNASSIGNED_STACK" Bundle.steD A U H ∧ vx_Zq Bundle.tN "SUPPRESSED_SENTINEL" Bundle.listD A U H ∧
  (∀ q ∈ sStrs, ∃ a, vk_R q.1 q.2.1 q.2.2 a U) ∧ (∀ E ∈ sExs, va_Nw (.castable E E) U) ∧ (∀ q ∈ sNest, va_Nw (.methodLinkNest q.1 q.2.1 q.2.2.1 q.2.2.2) U) ∧ (∀ E ∈ sExs, ∀ F ∈ sExs, E ≠ F → va_Nc E F U) ∧ ∀ y ∈ sDecl, va_Nw (.declares y) U
theorem sNw_d {x : MethodName} {s U : State} (hW : s.WarmedH U.vm) (hZ : va_Nw (.declares x) s) : va_Nw (.declares x) U := va_tabs rfl (rfl : (s.setVm U.vm).vm = U.vm) (by rw [Cond.declares_setVm hW.alike]; exact hZ)
theorem sEnv.moved {D : va_G} {cy : Nat → ClassId} {A : Nat → Prop} {s U : State} {H : Heap} (hW : s.WarmedH U.vm) (h : sEnv D cy A s H) : sEnv D cy A U H := by
  obtain ⟨h1, h2, h3, h4, h5, h6, h7, h8⟩ := h
  refine ⟨va_K.moved hW.alike h1, vx_Zq.moved hW.alike h2, vx_Zq.moved hW.alike h3, fun q hq => ?_, fun E hE => va_Nw.warmC hW (h5 E hE), fun q hq => va_Nw.warmM hW (h6 q hq), fun E hE F hF hn => va_Nc.moved hW.alike (h7 E hE F hF hn), fun y hy => sNw_d hW (h8 y hy)⟩
  obtain ⟨a, ha⟩ := h4 q hq
  exact ⟨a, vk_R.warm hW ha⟩
theorem sEnv.kept {D : va_G} {cy : Nat → ClassId} {A : Nat → Prop} {U : State} {H H1 : Heap} (h : sEnv D cy A U H) (hq : ∀ a : Nat, a < H.size → ¬ A a → H1[a]? = H[a]?) : sEnv D cy A U H1 :=
  ⟨h.1, h.2.1.kept hq, h.2.2.1.kept hq, h.2.2.2⟩
theorem sEnv.narrow {D : va_G} {cy : Nat → ClassId} {A B : Nat → Prop} {U : State} {H : Heap} (h : sEnv D cy A U H) (hAB : ∀ q, B q → A q) : sEnv D cy B U H :=
  ⟨h.1, h.2.1.narrow hAB, h.2.2.1.narrow hAB, h.2.2.2⟩
/-- what a method finds -/
def sPre (D : va_G) (cy : Nat → ClassId) (ad : Nat → Nat) (X : sX) (σ : sM) (sz : Nat) (U : State) : Prop :=
  U.heap.size = sz ∧ va_P D sCl (sW cy ad X σ) U.heap ∧ sEnv D cy (sFree ad sz) U U.heap
/-- how a method ends: it throws the exception of that name, or returns -/
abbrev sO : Type := String ⊕ Option Value
def sC : sO → Nat | .inl _ => 1 | .inr _ => 0
def sS : sO → Nat | .inl _ => 6 | .inr _ => 0
def sQc (D : va_G) (cy : Nat → ClassId) (ad : Nat → Nat) (o : sO) (X : sX) (σ : sM) (sz : Nat) : Array Value → State → Outcome → State → Prop := fun _ st oc t =>
  ∃ v, o = .inr v ∧ oc = .returned v ∧ va_P D sCl (sW cy ad X σ) t.heap ∧ va_F (sFree ad sz) st t
def sXc (D : va_G) (cy : Nat → ClassId) (ad : Nat → Nat) (o : sO) (X : sX) (σ : sM) (sz : Nat) : String → State → State → Prop := fun E st t =>
  o = .inl E ∧ va_P D sCl (sW cy ad X σ) t.heap ∧ va_F (sFree ad sz) st t
def sWs (y : MethodName) (cc : ByteArray) (nL : Nat) (ret : Option FieldType) : List Cond := Cond.code y cc nL ret :: sT
def sWh (y : MethodName) (cc : ByteArray) (nL : Nat) (ret : Option FieldType) (hh : List (Nat × Nat × Nat × Nat)) : List Cond := Cond.codeWith y cc nL ret hh :: sT
/-- A METHOD'S CONTRACT: from the room σ with the arguments as it ends by o with the room σ' -/
def sMet (l : Launch) (y : MethodName) (ws : List Cond) (fr lo mc ms : Nat) (D : va_G) (cy : Nat → ClassId) (ad : Nat → Nat) (X : sX) (σ : sM) (as : List Value) (o : sO) (X' : sX) (σ' : sM) : Prop :=
  ∀ sz : Nat, vx_Met l y ws { frames := fr, cells := mc, slots := ms, locals := lo } (va_Pc as (sPre D cy ad X σ sz)) (sQc D cy ad o X' σ' sz) (sXc D cy ad o X' σ' sz) mc ms (sFree ad sz)
/-- what holds in a method's body: the machine, the code, the class, the words, the tables, the addresses -/
def sB (p : Program) (l : Launch) (s : State) (m : MethodId) (meth : Method) (c : Code) (args : Array Value) (cc : ByteArray) (nL : Nat) (own : String) (D : va_G) (cy : Nat → ClassId) (ad : Nat → Nat) : Prop :=
  p.tables.exec = Jvm.exec ∧ c.code = cc ∧ c.maxLocals = nL ∧ s.vm.findClass own = some m.cls ∧ (∀ w ∈ sT, w.before args s = true) ∧ sEnv D cy (sFree ad s.heap.size) s s.heap ∧ sAp ad ∧ meth.locks = false ∧ l.stackTraces = false
/-- the heap of a body: the room σ, and what else was there -/
def sH (D : va_G) (cy : Nat → ClassId) (ad : Nat → Nat) (X : sX) (σ : sM) (s : State) (H : Heap) (locs : List Loc) : Prop :=
  va_P D sCl (sW cy ad X σ) H ∧ va_S (sFree ad s.heap.size) s.heap H locs
/-- a body's goal -/
def sQ (below : List Frame) (args : Array Value) (s : State) (mc ms : Nat) (D : va_G) (cy : Nat → ClassId) (ad : Nat → Nat) (o : sO) (X : sX) (σ : sM) : State → Prop :=
  vx_MQ below (sQc D cy ad o X σ s.heap.size) (sXc D cy ad o X σ s.heap.size) args s mc ms (sFree ad s.heap.size)
theorem sMet_of {l : Launch} {y : MethodName} {cc : ByteArray} {nL fr lo mc ms : Nat} {ret : Option FieldType} {D : va_G} {cy : Nat → ClassId} {ad : Nat → Nat} {X X' : sX} {σ σ' : sM} {as : List Value} {o : sO} (hy : plainName y.cls = true) (hn : (lg_sl as).length ≤ nL) (hap : sAp ad) (hl0 : l.stackTraces = false)
    (body : ∀ (p : Program) (e : Env) (s : State) (m : MethodId) (args : Array Value) (below : List Frame) (meth : Method) (c : Code) (ls : Array Slot), sB p l s m meth c args cc nL y.cls D cy ad → meth.sig.returnType = ret → (∀ x ∈ c.exceptionTable.toList, False) → lv_has ls nL (lv_args 0 as) → sH D cy ad X σ s s.heap [] →
      W p l e { frames := fr, cells := mc, slots := ms, locals := lo } s m args below meth c s.heap [] 0 0 (sQ below args s mc ms D cy ad o X' σ') (F0 m 0 ls [])) : sMet l y (sWs y cc nL ret) fr lo mc ms D cy ad X σ as o X' σ' := by
  intro sz
  refine vx_ofW (cc := cc) (maxL := nL) (ret := ret) hy rfl ?_
  intro p e s m args below meth c s₁ B hml htab hv
  obtain ⟨rfl, hsz, hP, hE⟩ := hv
  subst hsz
  have hts := atoms_spec (ws := sWs y cc nL ret) B.pre
  have hown : s.vm.findClass y.cls = some m.cls := findClass_of_methodNamed B.named
  rw [lg_entry_eq]
  exact body p e s m _ below meth c _ ⟨B.exec, B.bytes, hml, hown, fun w hw => hts w (List.mem_cons_of_mem _ hw), hE, hap, B.notSynchronized, hl0⟩ B.returns htab (lv_entry as hn) ⟨hP, va_S.rf⟩
theorem sMet_ofH {l : Launch} {y : MethodName} {cc : ByteArray} {nL fr lo mc ms : Nat} {ret : Option FieldType} {hh : List (Nat × Nat × Nat × Nat)} {D : va_G} {cy : Nat → ClassId} {ad : Nat → Nat} {X X' : sX} {σ σ' : sM} {as : List Value} {o : sO} (hy : plainName y.cls = true) (hn : (lg_sl as).length ≤ nL) (hap : sAp ad) (hl0 : l.stackTraces = false)
    (body : ∀ (p : Program) (e : Env) (s : State) (m : MethodId) (args : Array Value) (below : List Frame) (meth : Method) (c : Code) (ls : Array Slot), sB p l s m meth c args cc nL y.cls D cy ad → meth.sig.returnType = ret → c.exceptionTable.toList = tableOf hh → lv_has ls nL (lv_args 0 as) → sH D cy ad X σ s s.heap [] →
      W p l e { frames := fr, cells := mc, slots := ms, locals := lo } s m args below meth c s.heap [] 0 0 (sQ below args s mc ms D cy ad o X' σ') (F0 m 0 ls [])) : sMet l y (sWh y cc nL ret hh) fr lo mc ms D cy ad X σ as o X' σ' := by
  intro sz
  refine vx_ofWH (cc := cc) (maxL := nL) (ret := ret) (hh := hh) hy rfl ?_
  intro p e s m args below meth c s₁ B hml hv
  obtain ⟨rfl, hsz, hP, hE⟩ := hv
  subst hsz
  have hts := atoms_spec (ws := sWh y cc nL ret hh) B.pre
  have hown : s.vm.findClass y.cls = some m.cls := findClass_of_methodNamed B.named
  rw [lg_entry_eq]
  exact body p e s m _ below meth c _ ⟨B.exec, B.bytes, hml, hown, fun w hw => hts w (List.mem_cons_of_mem _ hw), hE, hap, B.notSynchronized, hl0⟩ B.returns (vx_table (x := y) B (hts _ List.mem_cons_self)) (lv_entry as hn) ⟨hP, va_S.rf⟩
