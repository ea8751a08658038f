/-! the law: its wrappers' calls, its own rows, its budget of cells -/
def cthn {α β : Type} (x : Option ((String ⊕ α) × sM)) (h : String → sM → Option β) (k : α → sM → Option β) : Option β := match x with
  | none => none
  | some (.inl E, σ) => h E σ
  | some (.inr r, σ) => k r σ
theorem cthn_cases {α β : Type} {x : Option ((String ⊕ α) × sM)} {h : String → sM → Option β} {k : α → sM → Option β} {o : β} (hf : cthn x h k = some o) : (∃ E σ, x = some (.inl E, σ) ∧ h E σ = some o) ∨ ∃ r σ, x = some (.inr r, σ) ∧ k r σ = some o := by
  match x, hf with
  | some (.inl E, σ), hf => exact Or.inl ⟨E, σ, rfl, hf⟩
  | some (.inr r, σ), hf => exact Or.inr ⟨r, σ, rfl, hf⟩
def lthn {β : Type} (x : Option (Int32 × (sM × sX))) (k : Int32 → sM → sX → Option β) : Option β := match x with
  | none => none
  | some q => k q.1 q.2.1 q.2.2
theorem lthn_some {β : Type} {x : Option (Int32 × (sM × sX))} {k : Int32 → sM → sX → Option β} {o : β} (hf : lthn x k = some o) : ∃ r σ X, x = some (r, σ, X) ∧ k r σ X = some o := by
  cases x with
  | none => cases hf
  | some q => exact ⟨q.1, q.2.1, q.2.2, rfl, hf⟩
theorem sw_0 {x : Int32} : ¬ (0 ≤ x.toInt ∧ x.toInt < ((0 : Nat) : Int)) := by omega
theorem sw_step {x : Int32} {j : Nat} (h : ¬ (0 ≤ x.toInt ∧ x.toInt < (j : Int))) (hn : ¬ x = Int32.ofNat j) (hj : j < 1000 := by decide) : ¬ (0 ≤ x.toInt ∧ x.toInt < ((j + 1 : Nat) : Int)) := by
  intro ⟨h1, h2⟩
  have e : x.toInt = (j : Int) := by omega
  exact hn (Int32.toInt_inj.mp (by rw [e]; exact (nI_toInt (n := j) (by omega)).symm))
theorem sw_out {x : Int32} {j : Nat} (h : ¬ (0 ≤ x.toInt ∧ x.toInt < (j : Int))) : x.toInt < 0 ∨ (j : Int) - 1 < x.toInt := by omega
theorem lw_c0 {c n B : Nat} (h : c + n ≤ B) : c + 0 ≤ B := by omega
theorem lw_s0 {c n B : Nat} (h : c + 6 * n ≤ B) : c + 0 ≤ B := by omega
theorem lw_w1 {c n B : Nat} (h : c + (n + 1) ≤ B) : c + n ≤ B := by omega
theorem lw_w2 {c n B : Nat} (h : c + 6 * (n + 1) ≤ B) : c + 6 * n ≤ B := by omega
theorem lw_c1 {c n B : Nat} (h : c + (n + 1) ≤ B) : c + 1 ≤ B := by omega
theorem lw_s1 {c n B : Nat} (h : c + 6 * (n + 1) ≤ B) : c + 6 ≤ B := by omega
theorem lw_c2 {c n B : Nat} (h : c + (n + 1) ≤ B) : c + 1 + n ≤ B := by omega
theorem lw_s2 {c n B : Nat} (h : c + 6 * (n + 1) ≤ B) : c + 6 + 6 * n ≤ B := by omega
/-- the script, apart from the room -/
def lwC (s : State) (d0 : Drawn) (b L : Nat) (xs : Nat → Int32) (ad : Nat → Nat) : Prop :=
  va_X b L xs (s.setDrawn d0) (s.setDrawn d0).heap ∧ b < (s.setDrawn d0).heap.size ∧ ¬ sFree ad (s.setDrawn d0).heap.size b ∧ (∀ k, k < 63 → s.heap.size ≤ ad k) ∧ s.drawn.sameBut d0 lw_cs
def sGoL (p : Program) (l : Launch) (e : Env) (s : State) (d0 : Drawn) (m : MethodId) (below : List Frame) (meth : Method) (c : Code) (b : Nat) (D : va_G) (cy : Nat → ClassId) (ad : Nat → Nat) (n : Nat) (X : sX) (σ : sM) (pc : Nat) (lv : List (Nat × Value)) (st : List Value) : Prop :=
  ∀ (H : Heap) (locs : List Loc) (ls : Array Slot) (cells slots : Nat), sH D cy ad X σ (s.setDrawn d0) H locs → lv_has ls 9 lv → cells + n ≤ 603072 → slots + 6 * n ≤ 7215210 → W p l e room_1 (s.setDrawn d0) m #[Value.ref b] below meth c H locs cells slots (lw_Z below #[Value.ref b] s) (F0 m pc ls st)
section LROWS
variable {p : Program} {l : Launch} {e : Env} {R : Room} {s : State} {m : MethodId} {args : Array Value} {below : List Frame} {meth : Method} {c : Code} {H : Heap} {locs : List Loc} {cells slots : Nat} {Q : State → Prop} {cc : ByteArray} {nL : Nat} {own : String} {D : va_G} {cy : Nat → ClassId} {ad : Nat → Nat} {X X' : sX} {σ σ' : sM} {pc : Nat} {ls : Array Slot} {rest st0 : List Value}
theorem g_lald (B : sB p l s m meth c args cc nL own D cy ad) (h : sH D cy ad X σ s H locs) {i : Int32} (hin : vp_in i 1) (hdg : decode cc pc = .ok (.laload, 1))
    (kk : W p l e R s m args below meth c H locs cells slots Q (F0 m (pc + 1) ls (.long (X.1 i.toNatClampNeg) :: rest))) : W p l e R s m args below meth c H locs cells slots Q (F0 m pc ls (.int i :: .ref (ad 61) :: rest)) :=
  va_lald (D := D) B.1 B.2.1 B.2.2.2.2.2.1.1 h.1 61 6 (cA := cy 6) (n := 1) (f := X.1) (sW_at (by decide)) rfl hin hdg kk
theorem g_dald (B : sB p l s m meth c args cc nL own D cy ad) (h : sH D cy ad X σ s H locs) {i : Int32} (hin : vp_in i 1) (hdg : decode cc pc = .ok (.daload, 1))
    (kk : W p l e R s m args below meth c H locs cells slots Q (F0 m (pc + 1) ls (.double (X.2 i.toNatClampNeg) :: rest))) : W p l e R s m args below meth c H locs cells slots Q (F0 m pc ls (.int i :: .ref (ad 62) :: rest)) :=
  va_dald (D := D) B.1 B.2.1 B.2.2.2.2.2.1.1 h.1 62 7 (cA := cy 7) (n := 1) (f := X.2) (sW_at (by decide)) rfl hin hdg kk
theorem lt63 {j : Nat} (h : j < 63) : j = 0 ∨ j = 1 ∨ j = 2 ∨ j = 3 ∨ j = 4 ∨ j = 5 ∨ j = 6 ∨ j = 7 ∨ j = 8 ∨ j = 9 ∨ j = 10 ∨ j = 11 ∨ j = 12 ∨ j = 13 ∨ j = 14 ∨ j = 15 ∨ j = 16 ∨ j = 17 ∨ j = 18 ∨ j = 19 ∨ j = 20 ∨ j = 21 ∨ j = 22 ∨ j = 23 ∨ j = 24 ∨ j = 25 ∨ j = 26 ∨ j = 27 ∨ j = 28 ∨ j = 29 ∨ j = 30 ∨ j = 31 ∨ j = 32 ∨ j = 33 ∨ j = 34 ∨ j = 35 ∨ j = 36 ∨ j = 37 ∨ j = 38 ∨ j = 39 ∨ j = 40 ∨ j = 41 ∨ j = 42 ∨ j = 43 ∨ j = 44 ∨ j = 45 ∨ j = 46 ∨ j = 47 ∨ j = 48 ∨ j = 49 ∨ j = 50 ∨ j = 51 ∨ j = 52 ∨ j = 53 ∨ j = 54 ∨ j = 55 ∨ j = 56 ∨ j = 57 ∨ j = 58 ∨ j = 59 ∨ j = 60 ∨ j = 61 ∨ j = 62 := by omega
theorem sRow_X1 (f : Nat → Int64) : ∀ j, j ≠ 61 → j < 63 → ∀ g, sRow cy ad (f, X.2) j g = sRow cy ad X j g := by
  intro j hj h g
  rcases lt63 h with rfl | rfl | rfl | rfl | rfl | rfl | rfl | rfl | rfl | rfl | rfl | rfl | rfl | rfl | rfl | rfl | rfl | rfl | rfl | rfl | rfl | rfl | rfl | rfl | rfl | rfl | rfl | rfl | rfl | rfl | rfl | rfl | rfl | rfl | rfl | rfl | rfl | rfl | rfl | rfl | rfl | rfl | rfl | rfl | rfl | rfl | rfl | rfl | rfl | rfl | rfl | rfl | rfl | rfl | rfl | rfl | rfl | rfl | rfl | rfl | rfl | rfl | rfl <;> first | rfl | exact absurd rfl hj
theorem sRow_X2 (f : Nat → UInt64) : ∀ j, j ≠ 62 → j < 63 → ∀ g, sRow cy ad (X.1, f) j g = sRow cy ad X j g := by
  intro j hj h g
  rcases lt63 h with rfl | rfl | rfl | rfl | rfl | rfl | rfl | rfl | rfl | rfl | rfl | rfl | rfl | rfl | rfl | rfl | rfl | rfl | rfl | rfl | rfl | rfl | rfl | rfl | rfl | rfl | rfl | rfl | rfl | rfl | rfl | rfl | rfl | rfl | rfl | rfl | rfl | rfl | rfl | rfl | rfl | rfl | rfl | rfl | rfl | rfl | rfl | rfl | rfl | rfl | rfl | rfl | rfl | rfl | rfl | rfl | rfl | rfl | rfl | rfl | rfl | rfl | rfl <;> first | rfl | exact absurd rfl hj
theorem sW_setX2 {k : Nat} (hk : k < 63) (ho : ∀ j, j ≠ k → j < 63 → ∀ f, sRow cy ad X' j f = sRow cy ad X j f) : (sW cy ad X σ).set k (ad k, sRow cy ad X' k (σ k)) = sW cy ad X' σ := by
  apply List.ext_getElem?
  intro j
  by_cases hj : j < 63
  · rw [sW_at hj]
    by_cases e : j = k
    · subst e
      rw [List.getElem?_set_self (by rw [sW_len]; exact hj)]
    · rw [List.getElem?_set_ne (Ne.symm e), sW_at hj, ho j e hj]
  · rw [List.getElem?_eq_none (by rw [List.length_set, sW_len]; omega), List.getElem?_eq_none (by rw [sW_len]; omega)]
theorem g_last (B : sB p l s m meth c args cc nL own D cy ad) (h : sH D cy ad X σ s H locs) {i : Int32} {x : Int64} (hin : vp_in i 1) (hdg : decode cc pc = .ok (.lastore, 1))
    (kk : ∀ (H1 : Heap) (locs1 : List Loc), sH D cy ad (vp_updL X.1 i.toNatClampNeg x, X.2) σ s H1 locs1 → W p l e R s m args below meth c H1 locs1 cells slots Q (F0 m (pc + 1) ls rest)) : W p l e R s m args below meth c H locs cells slots Q (F0 m pc ls (.long x :: .int i :: .ref (ad 61) :: rest)) :=
  va_last (D := D) B.1 B.2.1 B.2.2.2.2.2.1.1 h.1 (sD B.2.2.2.2.2.2.1) h.2 61 6 (cA := cy 6) (n := 1) (f := X.1) (sW_at (by decide)) rfl hin hdg
    (fun H1 locs1 hP _ hS => kk H1 locs1 ⟨by rw [← sW_setX2 (k := 61) (X := X) (by decide) (fun j hj h2 f => sRow_X1 _ j hj h2 f)]; exact hP, hS⟩)
theorem g_dast (B : sB p l s m meth c args cc nL own D cy ad) (h : sH D cy ad X σ s H locs) {i : Int32} {x : UInt64} (hin : vp_in i 1) (hdg : decode cc pc = .ok (.dastore, 1))
    (kk : ∀ (H1 : Heap) (locs1 : List Loc), sH D cy ad (X.1, vf_upd X.2 i.toNatClampNeg x) σ s H1 locs1 → W p l e R s m args below meth c H1 locs1 cells slots Q (F0 m (pc + 1) ls rest)) : W p l e R s m args below meth c H locs cells slots Q (F0 m pc ls (.double x :: .int i :: .ref (ad 62) :: rest)) :=
  va_dast (D := D) B.1 B.2.1 B.2.2.2.2.2.1.1 h.1 (sD B.2.2.2.2.2.2.1) h.2 62 7 (cA := cy 7) (n := 1) (f := X.2) (sW_at (by decide)) rfl hin hdg
    (fun H1 locs1 hP _ hS => kk H1 locs1 ⟨by rw [← sW_setX2 (k := 62) (X := X) (by decide) (fun j hj h2 f => sRow_X2 _ j hj h2 f)]; exact hP, hS⟩)
/-- a handler's row ahead that names another class -/
theorem vx_ps (B : sB p l s m meth c args cc nL own D cy ad) {x : ExceptionTableEntry} {pre : List ExceptionTableEntry} {E nm : String} {pcx : Nat} (h0 : x.catchType ≠ 0) (hl : Cond.classLink own x.catchType nm ∈ sT) (hE : E ∈ sExs) (hF : nm ∈ sExs) (hne : E ≠ nm)
    (ih : ∀ z ∈ pre, covers z pcx = false ∨ (z.catchType ≠ 0 ∧ ∃ nm : String, (Cond.classLink own z.catchType nm).before args s = true ∧ va_Nc E nm s)) :
    ∀ z ∈ x :: pre, covers z pcx = false ∨ (z.catchType ≠ 0 ∧ ∃ nm : String, (Cond.classLink own z.catchType nm).before args s = true ∧ va_Nc E nm s) := by
  intro z hz
  rcases List.mem_cons.mp hz with rfl | hz
  · exact Or.inr ⟨h0, nm, B.2.2.2.2.1 _ hl, B.2.2.2.2.2.1.2.2.2.2.2.2.1 E hE nm hF hne⟩
  · exact ih z hz
/-- a call of a static method with handlers -/
def sCallH (own : String) (index : Nat) (y : MethodName) (bytes : ByteArray) (maxL : Nat) (ret : Option FieldType) (hh : List (Nat × Nat × Nat × Nat)) (n : Nat) : Prop :=
  Cond.codeWith y bytes maxL ret hh ∈ sT ∧ Cond.methodLink own index y ∈ sT ∧ Cond.static y ∈ sT ∧ Cond.initialized y.cls ∈ sT ∧ y.cls ≠ "java/lang/invoke/MethodHandle" ∧ y.cls ≠ "java/lang/invoke/VarHandle" ∧ (parseMethodDescriptor y.desc).map (fun d => d.parameters.length) = some n
theorem sHas {w : Cond} (h : w ∈ sT) : GoodIn sT [w] := fun w' hw => by
  rcases List.mem_singleton.mp hw with rfl
  exact ⟨h, good_of_word (sT_good h)⟩
theorem g_runH {index fr lo maxL n mc ms : Nat} {y : MethodName} {bytes : ByteArray} {ret : Option FieldType} {hh : List (Nat × Nat × Nat × Nat)} {As : List Value} {o : sO} (B : sB p l s m meth c args cc nL own D cy ad) (h : sH D cy ad X σ s H locs) (hM : sMet l y (sWh y bytes maxL ret hh) fr lo mc ms D cy ad X σ As o X' σ') (hw : sCallH own index y bytes maxL ret hh n) (hR : fr + 1 ≤ R.frames ∧ 8 + (maxL + 11) + lo ≤ R.locals)
    (hn : As.length = n) (hsz : nL = ls.size) (hst : st0 = As.reverse ++ rest) (hcat : (rest.map fun v => v.category).sum ≤ 8) (hdg : decode cc pc = .ok (.invokestatic index, 3)) (hf : cells + mc ≤ R.cells ∧ slots + ms ≤ R.slots) :
    vx_Run p l e R s m args below meth c H locs cells slots mc ms (F0 m pc ls st0) rest (sQc D cy ad o X' σ' H.size As.toArray) (sXc D cy ad o X' σ' H.size) (sFree ad H.size) :=
  vx_runSX (As := As) (Ts := sT) ⟨B.1, B.2.1, B.2.2.1, B.2.2.2.1, B.2.2.2.2.1⟩ (hM H.size)
    (vx_cwSW (ws := sWh y bytes maxL ret hh) (rm := { frames := fr, cells := mc, slots := ms, locals := lo }) n B.2.2.2.2.1 (goodIn_app (fun w hw2 => by
      rcases List.mem_cons.mp hw2 with rfl | hw2
      · exact sHas hw.2.1 _ (List.mem_singleton_self _)
      rcases List.mem_cons.mp hw2 with rfl | hw2
      · exact sHas hw.2.2.1 _ (List.mem_singleton_self _)
      rcases List.mem_cons.mp hw2 with rfl | hw2
      · exact sHas hw.2.2.2.1 _ (List.mem_singleton_self _)
      · cases hw2) (sGood hw.1)) rfl rfl rfl hw.2.2.2.2 hR)
    ⟨sBlind, sPreAt B h _⟩ rfl hn hsz.symm hst (lv_room hcat) hdg hf
end LROWS
theorem lw_end {p : Program} {l : Launch} {e : Env} {s : State} {d0 : Drawn} {m : MethodId} {below : List Frame} {meth : Method} {c : Code} {b L : Nat} {xs : Nat → Int32} {D : va_G} {cy : Nat → ClassId} {ad : Nat → Nat} {H : Heap} {locs : List Loc} {cells slots n1 n2 : Nat} {X : sX} {σ : sM} {pc : Nat} {ls : Array Slot} (C : lwC s d0 b L xs ad) (B : sB p l (s.setDrawn d0) m meth c #[Value.ref b] code 9 RL D cy ad) (hr : meth.sig.returnType = ret) (h : sH D cy ad X σ (s.setDrawn d0) H locs) (hc1 : cells + n1 ≤ 603072) (hc2 : slots + n2 ≤ 7215210) (hdg : decode code pc = .ok (.ireturn, 1)) :
    W p l e room_1 (s.setDrawn d0) m #[Value.ref b] below meth c H locs cells slots (lw_Z below #[Value.ref b] s) (F0 m pc ls [.int 1]) := by
  refine va_forget (fun q hq => ?_) ?_
  · rcases h.2.2.2 q hq with ⟨k, hk, e1⟩ | h1
    · rw [e1]; exact C.2.2.2.1 k hk
    · exact h1
  · refine W.widen (k := 603072) (n := 7215210) (Nat.le_trans (Nat.le_add_right _ _) hc1) (Nat.le_trans (Nat.le_add_right _ _) hc2) ?_
    exact lw_ret C.2.2.2.2 B.1 B.2.1 hr B.2.2.2.2.2.2.2.1 hdg
