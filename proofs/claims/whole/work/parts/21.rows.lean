section ROWS
variable {p : Program} {l : Launch} {e : Env} {R : Room} {s : State} {m : MethodId} {args : Array Value} {below : List Frame} {meth : Method} {c : Code} {H : Heap} {locs : List Loc} {cells slots : Nat} {Q : State → Prop} {cc : ByteArray} {nL : Nat} {own : String} {D : va_G} {cy : Nat → ClassId} {ad : Nat → Nat} {X X' : sX} {σ σ' : sM} {pc : Nat} {ls : Array Slot} {rest st0 : List Value}
theorem sFree_le {ad : Nat → Nat} {a b : Nat} (h : a ≤ b) : ∀ q, sFree ad b q → sFree ad a q := fun _ hq => hq.elim Or.inl (fun h2 => Or.inr (Nat.le_trans h h2))
theorem g_get (B : sB p l s m meth c args cc nL own D cy ad) (h : sH D cy ad X σ s H locs) (k : Nat) (hk : k < 63) {ci : Nat} {fs : List Value} {C : String} {T : u_T} {N index : Nat} (he : sRow cy ad X k (σ k) = .inr (ci, fs)) (hc : sCl[ci]? = some (C, T, N)) (hin : ∀ w ∈ u_ws C T N, w ∈ sT) (j : Nat) (hj : j < N) (hlink : Cond.fieldLink own index C (T j).2.1 (T j).2.2.1 ∈ sT) (hdc : (T j).1 = C) {v : Value} (hv : fs[j]? = some v) (hdg : decode cc pc = .ok (.getfield index, 3))
    (kk : W p l e R s m args below meth c H locs cells slots Q (F0 m (pc + 3) ls (v :: rest))) : W p l e R s m args below meth c H locs cells slots Q (F0 m pc ls (.ref (ad k) :: rest)) :=
  va_get (D := D) B.1 B.2.1 B.2.2.2.2.1 hin B.2.2.2.1 B.2.2.2.2.2.1.1 h.1 k (by rw [sW_at hk, he]) hc j hj (B.2.2.2.2.1 _ hlink) (fun x hx => by rw [hdc] at hx; exact hx) hv hdg kk
theorem g_put (B : sB p l s m meth c args cc nL own D cy ad) (h : sH D cy ad X σ s H locs) (k : Nat) (hk : k < 63) {ci : Nat} {fs : List Value} {C : String} {T : u_T} {N index : Nat} (he : sRow cy ad X k (σ k) = .inr (ci, fs)) (hc : sCl[ci]? = some (C, T, N)) (hin : ∀ w ∈ u_ws C T N, w ∈ sT) (ty0 : Nat → FieldType) (hty : ∀ k, k < N → parseFieldDescriptor (T k).2.2.1 = some (ty0 k)) (hnm : ∀ a, a < N → ∀ b, b < N → a ≠ b → (T a).2.1 ≠ (T b).2.1)
    (j : Nat) (hj : j < N) (hlink : Cond.fieldLink own index C (T j).2.1 (T j).2.2.1 ∈ sT) (hdc : (T j).1 = C) (hfin : (T j).2.2.2 = false) {v : Value} (hn : narrow (ty0 j) v = v) (hfit : fits (ty0 j) v = true) (f : Nat → Int32) (he' : sRow cy ad X k f = .inr (ci, fs.set j v)) (hl : j < fs.length) (hdg : decode cc pc = .ok (.putfield index, 3))
    (kk : ∀ (H1 : Heap) (locs1 : List Loc), sH D cy ad X (va_up σ k f) s H1 locs1 → W p l e R s m args below meth c H1 locs1 cells slots Q (F0 m (pc + 3) ls rest)) : W p l e R s m args below meth c H locs cells slots Q (F0 m pc ls (v :: .ref (ad k) :: rest)) :=
  va_put (D := D) B.1 B.2.1 B.2.2.2.2.1 hin ty0 hty hnm B.2.2.2.1 B.2.2.2.2.2.1.1 h.1 (sD B.2.2.2.2.2.2.1) h.2 k (by rw [sW_at hk, he]) hc j hj (B.2.2.2.2.1 _ hlink) (fun x hx => by rw [hdc] at hx; exact hx) hfin (hty j hj) hn hfit hl hdg
    (fun H1 locs1 hP _ hS => kk H1 locs1 ⟨by rw [← sW_set hk, he']; exact hP, hS⟩)
theorem g_iald (B : sB p l s m meth c args cc nL own D cy ad) (h : sH D cy ad X σ s H locs) (k : Nat) (hk : k < 63) {n : Nat} (he : ∀ f, sRow cy ad X k f = sInt (cy 0) n f) {i : Int32} (hin : vp_in i n) (hdg : decode cc pc = .ok (.iaload, 1))
    (kk : W p l e R s m args below meth c H locs cells slots Q (F0 m (pc + 1) ls (.int (σ k i.toNatClampNeg) :: rest))) : W p l e R s m args below meth c H locs cells slots Q (F0 m pc ls (.int i :: .ref (ad k) :: rest)) :=
  va_iald (D := D) B.1 B.2.1 B.2.2.2.2.2.1.1 h.1 k 0 (cA := cy 0) (n := n) (by rw [sW_at hk, he]; rfl) rfl hin hdg kk
theorem g_cald (B : sB p l s m meth c args cc nL own D cy ad) (h : sH D cy ad X σ s H locs) (k : Nat) (hk : k < 63) {n : Nat} (he : ∀ f, sRow cy ad X k f = sInt (cy 1) n f) {i : Int32} (hin : vp_in i n) (hdg : decode cc pc = .ok (.caload, 1))
    (kk : W p l e R s m args below meth c H locs cells slots Q (F0 m (pc + 1) ls (.int (σ k i.toNatClampNeg) :: rest))) : W p l e R s m args below meth c H locs cells slots Q (F0 m pc ls (.int i :: .ref (ad k) :: rest)) :=
  va_cald (D := D) B.1 B.2.1 B.2.2.2.2.2.1.1 h.1 k 1 (cA := cy 1) (n := n) (by rw [sW_at hk, he]; rfl) rfl hin hdg kk
theorem g_zald (B : sB p l s m meth c args cc nL own D cy ad) (h : sH D cy ad X σ s H locs) (k : Nat) (hk : k < 63) {n : Nat} (he : ∀ f, sRow cy ad X k f = sInt (cy 2) n f) {i : Int32} (hin : vp_in i n) (hdg : decode cc pc = .ok (.baload, 1))
    (kk : W p l e R s m args below meth c H locs cells slots Q (F0 m (pc + 1) ls (.int (σ k i.toNatClampNeg) :: rest))) : W p l e R s m args below meth c H locs cells slots Q (F0 m pc ls (.int i :: .ref (ad k) :: rest)) :=
  va_zald (D := D) B.1 B.2.1 B.2.2.2.2.2.1.1 h.1 k 2 (cA := cy 2) (n := n) (by rw [sW_at hk, he]; rfl) rfl hin hdg kk
theorem g_iast (B : sB p l s m meth c args cc nL own D cy ad) (h : sH D cy ad X σ s H locs) (k : Nat) (hk : k < 63) {n : Nat} (he : ∀ f, sRow cy ad X k f = sInt (cy 0) n f) {i x : Int32} (hin : vp_in i n) (hdg : decode cc pc = .ok (.iastore, 1))
    (kk : ∀ (H1 : Heap) (locs1 : List Loc), sH D cy ad X (va_up σ k (upd (σ k) i.toNatClampNeg x)) s H1 locs1 → W p l e R s m args below meth c H1 locs1 cells slots Q (F0 m (pc + 1) ls rest)) : W p l e R s m args below meth c H locs cells slots Q (F0 m pc ls (.int x :: .int i :: .ref (ad k) :: rest)) :=
  va_iast (D := D) B.1 B.2.1 B.2.2.2.2.2.1.1 h.1 (sD B.2.2.2.2.2.2.1) h.2 k 0 (cA := cy 0) (n := n) (by rw [sW_at hk, he]; rfl) rfl hin hdg
    (fun H1 locs1 hP _ hS => kk H1 locs1 ⟨by rw [← sW_set hk, he]; exact hP, hS⟩)
theorem g_cast (B : sB p l s m meth c args cc nL own D cy ad) (h : sH D cy ad X σ s H locs) (k : Nat) (hk : k < 63) {n : Nat} (he : ∀ f, sRow cy ad X k f = sInt (cy 1) n f) {i x : Int32} (hin : vp_in i n) (hdg : decode cc pc = .ok (.castore, 1))
    (kk : ∀ (H1 : Heap) (locs1 : List Loc), sH D cy ad X (va_up σ k (upd (σ k) i.toNatClampNeg (vp_nar .char x))) s H1 locs1 → W p l e R s m args below meth c H1 locs1 cells slots Q (F0 m (pc + 1) ls rest)) : W p l e R s m args below meth c H locs cells slots Q (F0 m pc ls (.int x :: .int i :: .ref (ad k) :: rest)) :=
  va_cast (D := D) B.1 B.2.1 B.2.2.2.2.2.1.1 h.1 (sD B.2.2.2.2.2.2.1) h.2 k 1 (cA := cy 1) (n := n) (by rw [sW_at hk, he]; rfl) rfl hin hdg
    (fun H1 locs1 hP _ hS => kk H1 locs1 ⟨by rw [← sW_set hk, he]; exact hP, hS⟩)
theorem g_zast (B : sB p l s m meth c args cc nL own D cy ad) (h : sH D cy ad X σ s H locs) (k : Nat) (hk : k < 63) {n : Nat} (he : ∀ f, sRow cy ad X k f = sInt (cy 2) n f) {i x : Int32} (hin : vp_in i n) (hdg : decode cc pc = .ok (.bastore, 1))
    (kk : ∀ (H1 : Heap) (locs1 : List Loc), sH D cy ad X (va_up σ k (upd (σ k) i.toNatClampNeg (vp_nar .boolean x))) s H1 locs1 → W p l e R s m args below meth c H1 locs1 cells slots Q (F0 m (pc + 1) ls rest)) : W p l e R s m args below meth c H locs cells slots Q (F0 m pc ls (.int x :: .int i :: .ref (ad k) :: rest)) :=
  va_zast (D := D) B.1 B.2.1 B.2.2.2.2.2.1.1 h.1 (sD B.2.2.2.2.2.2.1) h.2 k 2 (cA := cy 2) (n := n) (by rw [sW_at hk, he]; rfl) rfl hin hdg
    (fun H1 locs1 hP _ hS => kk H1 locs1 ⟨by rw [← sW_set hk, he]; exact hP, hS⟩)
theorem g_alen (B : sB p l s m meth c args cc nL own D cy ad) (h : sH D cy ad X σ s H locs) (k : Nat) (hk : k < 63) (t : Nat) {ty : FieldType} {z : vp_A} (he : sRow cy ad X k (σ k) = .inl (cy t, z)) (ht : (sTys cy)[t]? = some (cy t, ty)) {v : Int32} (hv : Int32.ofNat z.1 = v) (hdg : decode cc pc = .ok (.arraylength, 1))
    (kk : W p l e R s m args below meth c H locs cells slots Q (F0 m (pc + 1) ls (.int v :: rest))) : W p l e R s m args below meth c H locs cells slots Q (F0 m pc ls (.ref (ad k) :: rest)) :=
  va_alen (D := D) B.1 B.2.1 B.2.2.2.2.2.1.1 h.1 k t (cA := cy t) (x := z) (by rw [sW_at hk, he]) ht hv hdg kk
theorem g_aald (B : sB p l s m meth c args cc nL own D cy ad) (h : sH D cy ad X σ s H locs) (k : Nat) (hk : k < 63) (t : Nat) {C : String} {n : Nat} {f : Nat → Option Nat} (he : sRow cy ad X k (σ k) = .inl (cy t, n, .inr (.inr (.inr (.inr f))))) (ht : (sTys cy)[t]? = some (cy t, .object C)) {i : Int32} (hin : vp_in i n) {r : Nat} (hv : f i.toNatClampNeg = some (ad r)) (hdg : decode cc pc = .ok (.aaload, 1))
    (kk : W p l e R s m args below meth c H locs cells slots Q (F0 m (pc + 1) ls (.ref (ad r) :: rest))) : W p l e R s m args below meth c H locs cells slots Q (F0 m pc ls (.int i :: .ref (ad k) :: rest)) :=
  va_aldq (D := D) B.1 B.2.1 B.2.2.2.2.2.1.1 h.1 k t (cA := cy t) (n := n) (f := f) (by rw [sW_at hk, he]) ht hin hdg (by rw [hv]; exact kk)
theorem g_copy (B : sB p l s m meth c args cc nL own D cy ad) (h : sH D cy ad X σ s H locs) (hsz : nL = ls.size) (k0 k : Nat) (hk0 : k0 < 63) (hk : k < 63) {n0 n1 index : Nat} (he0 : ∀ f, sRow cy ad X k0 f = sInt (cy 0) n0 f) (he : ∀ f, sRow cy ad X k f = sInt (cy 0) n1 f) (hl1 : Cond.methodLink own index arraycopyName ∈ sT) (hl2 : Cond.native arraycopyName ∈ sT) (hl3 : Cond.static arraycopyName ∈ sT) (hl4 : Cond.initialized "java/lang/System" ∈ sT)
    {sp dp n : Int32} (hin : ¬ sp < 0 ∧ ¬ dp < 0 ∧ ¬ n < 0 ∧ sp.toNatClampNeg + n.toNatClampNeg ≤ n0 ∧ dp.toNatClampNeg + n.toNatClampNeg ≤ n1)
    (hframes : 1 ≤ R.frames) (hlocals : (rest.map fun v => v.category).sum + (nativeFrameWords "java/lang/System" "arraycopy" 5 + 11) ≤ R.locals) (hdg : decode cc pc = .ok (.invokestatic index, 3))
    (kk : ∀ (H1 : Heap) (locs1 : List Loc), sH D cy ad X (va_up σ k (va_cpy (σ k0) (σ k) sp.toNatClampNeg dp.toNatClampNeg n.toNatClampNeg)) s H1 locs1 → W p l e R s m args below meth c H1 locs1 cells slots Q (F0 m (pc + 3) ls rest)) : W p l e R s m args below meth c H locs cells slots Q (F0 m pc ls (.int n :: .int dp :: .ref (ad k) :: .int sp :: .ref (ad k0) :: rest)) :=
  va_copyi (D := D) B.1 B.2.1 (B.2.2.1.trans hsz) B.2.2.2.1 (B.2.2.2.2.1 _ hl1) (B.2.2.2.2.1 _ hl2) (B.2.2.2.2.1 _ hl3) (B.2.2.2.2.1 _ hl4) B.2.2.2.2.2.1.1 h.1 (sD B.2.2.2.2.2.2.1) h.2 k0 k 0 0 (c0 := cy 0) (c1 := cy 0) (n0 := n0) (n1 := n1) (ty := .int) (by rw [sW_at hk0, he0]; rfl) (by rw [sW_at hk, he]; rfl) rfl rfl rfl hin.1 hin.2.1 hin.2.2.1 hin.2.2.2.1 hin.2.2.2.2 (fun _ _ => rfl) hframes hlocals hdg
    (fun H1 locs1 hP _ hS => kk H1 locs1 ⟨by rw [← sW_set hk, he]; exact hP, hS⟩)
theorem g_max (B : sB p l s m meth c args cc nL own D cy ad) (hsz : nL = ls.size) {index : Nat} (hl1 : Cond.methodLink own index Lib.Math.max.name ∈ sT) (hl2 : Cond.static Lib.Math.max.name ∈ sT) (hl3 : Cond.initialized "java/lang/Math" ∈ sT) (hl4 : Cond.code Lib.Math.max.name Lib.Math.max.code 2 (some .int) ∈ sT) (hframes : 1 ≤ R.frames) (hlocals : (rest.map fun v => v.category).sum + 13 ≤ R.locals) (hc : cells ≤ R.cells) (hs : slots ≤ R.slots) {x y : Int32} (hdg : decode cc pc = .ok (.invokestatic index, 3))
    (kk : W p l e R s m args below meth c H locs cells slots Q (F0 m (pc + 3) ls (.int (if x < y then y else x) :: rest))) : W p l e R s m args below meth c H locs cells slots Q (F0 m pc ls (.int y :: .int x :: rest)) :=
  va_mmax B.1 B.2.1 (B.2.2.1.trans hsz) B.2.2.2.1 (B.2.2.2.2.1 _ hl1) (B.2.2.2.2.1 _ hl2) (B.2.2.2.2.1 _ hl3) (B.2.2.2.2.1 _ hl4) hframes hlocals hc hs hdg kk
theorem g_min (B : sB p l s m meth c args cc nL own D cy ad) (hsz : nL = ls.size) {index : Nat} (hl1 : Cond.methodLink own index Lib.Math.min.name ∈ sT) (hl2 : Cond.static Lib.Math.min.name ∈ sT) (hl3 : Cond.initialized "java/lang/Math" ∈ sT) (hl4 : Cond.code Lib.Math.min.name Lib.Math.min.code 2 (some .int) ∈ sT) (hframes : 1 ≤ R.frames) (hlocals : (rest.map fun v => v.category).sum + 13 ≤ R.locals) (hc : cells ≤ R.cells) (hs : slots ≤ R.slots) {x y : Int32} (hdg : decode cc pc = .ok (.invokestatic index, 3))
    (kk : W p l e R s m args below meth c H locs cells slots Q (F0 m (pc + 3) ls (.int (if y < x then y else x) :: rest))) : W p l e R s m args below meth c H locs cells slots Q (F0 m pc ls (.int y :: .int x :: rest)) :=
  va_mmin B.1 B.2.1 (B.2.2.1.trans hsz) B.2.2.2.1 (B.2.2.2.2.1 _ hl1) (B.2.2.2.2.1 _ hl2) (B.2.2.2.2.1 _ hl3) (B.2.2.2.2.1 _ hl4) hframes hlocals hc hs hdg kk
/-! calls -/
theorem sRetC {mc ms : Nat} {v : Option Value} {a : Array Value} (hr : vx_Run p l e R s m args below meth c H locs cells slots mc ms (F0 m pc ls st0) rest (sQc D cy ad (.inr v) X' σ' H.size a) (sXc D cy ad (.inr v) X' σ' H.size) (sFree ad H.size)) (h : sH D cy ad X σ s H locs)
    (kk : ∀ (H1 : Heap) (locs1 : List Loc), sH D cy ad X' σ' s H1 locs1 → W p l e R s m args below meth c H1 locs1 (cells + mc) (slots + ms) Q (F0 m (pc + 3) ls (v.toList ++ rest))) : W p l e R s m args below meth c H locs cells slots Q (F0 m pc ls st0) := by
  intro T hT X0
  rcases hr T hT X0 with ⟨v', st₀, t, T', L, h0, X1, hL, e1, e2, ⟨v1, ho, hoc, hP, hF⟩, st⟩ | ⟨q, st₀, t, T', L, E, ce, h0, X1, hL, e1, e2, ⟨ho, -⟩, -⟩
  · cases ho
    cases hoc
    obtain ⟨-, -, k3⟩ := vx_keep h0 e1 h.2 (fun q _ hq => sFree_le h.2.1 q hq) (sFree_le h.2.1) hL hF
    obtain ⟨t2, a1, b1⟩ := kk T'.heap (locs ++ L) ⟨by rw [e1]; exact hP, k3⟩ T' rfl X1
    exact ⟨t2, st t2 a1, b1⟩
  · cases ho
theorem sRetC1 {v : Value} {a : Array Value} (hr : vx_Run p l e R s m args below meth c H locs cells slots 0 0 (F0 m pc ls st0) rest (sQc D cy ad (.inr (some v)) X' σ' H.size a) (sXc D cy ad (.inr (some v)) X' σ' H.size) (sFree ad H.size)) (h : sH D cy ad X σ s H locs)
    (kk : ∀ (H1 : Heap) (locs1 : List Loc), sH D cy ad X' σ' s H1 locs1 → W p l e R s m args below meth c H1 locs1 cells slots Q (F0 m (pc + 3) ls (v :: rest))) : W p l e R s m args below meth c H locs cells slots Q (F0 m pc ls st0) := sRetC hr h kk
theorem sRetC0 {a : Array Value} (hr : vx_Run p l e R s m args below meth c H locs cells slots 0 0 (F0 m pc ls st0) rest (sQc D cy ad (.inr none) X' σ' H.size a) (sXc D cy ad (.inr none) X' σ' H.size) (sFree ad H.size)) (h : sH D cy ad X σ s H locs)
    (kk : ∀ (H1 : Heap) (locs1 : List Loc), sH D cy ad X' σ' s H1 locs1 → W p l e R s m args below meth c H1 locs1 cells slots Q (F0 m (pc + 3) ls rest)) : W p l e R s m args below meth c H locs cells slots Q (F0 m pc ls st0) := sRetC hr h kk
theorem sThrC {mc ms : Nat} {E : String} {a : Array Value} (hr : vx_Run p l e R s m args below meth c H locs cells slots mc ms (F0 m pc ls st0) rest (sQc D cy ad (.inl E) X' σ' H.size a) (sXc D cy ad (.inl E) X' σ' H.size) (sFree ad H.size)) (h : sH D cy ad X σ s H locs)
    (kk : ∀ (H1 : Heap) (locs1 : List Loc) (q : Addr) (ce : Cell), sH D cy ad X' σ' s H1 locs1 → H1[q]? = some ce → ce.vm = .none → s.vm.findClass E = some ce.cls → vx_W p l e R s m args below meth c H1 locs1 (cells + mc) (slots + ms) Q (F0 m pc ls rest) q) : W p l e R s m args below meth c H locs cells slots Q (F0 m pc ls st0) := by
  intro T hT X0
  rcases hr T hT X0 with ⟨v', st₀, t, T', L, h0, X1, hL, e1, e2, ⟨v1, ho, -⟩, st⟩ | ⟨q, st₀, t, T', L, E', ce, h0, X1, hL, e1, e2, ⟨ho, hP, hF⟩, hce, hcv, hcl, st⟩
  · cases ho
  · cases ho
    obtain ⟨-, -, k3⟩ := vx_keep h0 e1 h.2 (fun q _ hq => sFree_le h.2.1 q hq) (sFree_le h.2.1) hL hF
    obtain ⟨t2, a1, b1⟩ := kk T'.heap (locs ++ L) q ce ⟨by rw [e1]; exact hP, k3⟩ (by rw [e1]; exact hce) hcv hcl T' rfl X1
    exact ⟨t2, st.trans a1, b1⟩
theorem sBlind {as : List Value} {sz : Nat} : FrameBlind (va_Pc as (sPre D cy ad X σ sz)) := fun a U g mk h =>
  ⟨h.1, h.2.1, h.2.2.1, sEnv.moved (s := U) (U := U.calling g mk a) (State.WarmedH.refl U) h.2.2.2⟩
theorem sPreAt (B : sB p l s m meth c args cc nL own D cy ad) (h : sH D cy ad X σ s H locs) (as : List Value) : ∀ U : State, U.heap = H → s.WarmedH U.vm → va_Pc as (sPre D cy ad X σ H.size) as.toArray U := fun U hU hW =>
  ⟨rfl, by rw [hU], by rw [hU]; exact h.1, by rw [hU]; exact ((B.2.2.2.2.2.1.kept h.2.2.1).narrow (sFree_le h.2.1)).moved hW⟩
theorem sGood {w : Cond} (h : w ∈ sT) : GoodIn sT (w :: sT) := fun w' hw => by
  rcases List.mem_cons.mp hw with rfl | hw
  · exact ⟨h, good_of_word (sT_good h)⟩
  · exact ⟨hw, good_of_word (sT_good hw)⟩
/-- what a call of a method y needs of the words -/
def sCall (own : String) (index : Nat) (y : MethodName) (bytes : ByteArray) (maxL : Nat) (ret : Option FieldType) (n : Nat) : Prop :=
  Cond.code y bytes maxL ret ∈ sT ∧ Cond.methodLink own index y ∈ sT ∧ Cond.initialized y.cls ∈ sT ∧ y.cls ≠ "java/lang/invoke/MethodHandle" ∧ y.cls ≠ "java/lang/invoke/VarHandle" ∧ (parseMethodDescriptor y.desc).map (fun d => d.parameters.length) = some n
def sCallV (own : String) (index : Nat) (y : MethodName) (bytes : ByteArray) (maxL : Nat) (ret : Option FieldType) (n : Nat) : Prop :=
  sCall own index y bytes maxL ret n ∧ Cond.instanceMethod y ∈ sT ∧ Cond.selects y.cls y y ∈ sT
def sCallS (own : String) (index : Nat) (y : MethodName) (bytes : ByteArray) (maxL : Nat) (ret : Option FieldType) (n : Nat) : Prop :=
  sCall own index y bytes maxL ret n ∧ Cond.static y ∈ sT
theorem sCallB {index fr lo maxL n mc ms : Nat} {y : MethodName} {bytes : ByteArray} {ret : Option FieldType} (hts : ∀ w ∈ sT, w.before args s = true) (hw : sCall own index y bytes maxL ret n) (hR : fr + 1 ≤ R.frames ∧ 8 + (maxL + 11) + lo ≤ R.locals) :
    CallB R s args own index y bytes maxL ret (sWs y bytes maxL ret) { frames := fr, cells := mc, slots := ms, locals := lo } mc ms n :=
  callB_of (rm := { frames := fr, cells := mc, slots := ms, locals := lo }) n hts (sGood hw.1) rfl rfl rfl (hts _ hw.2.2.1) (hts _ hw.2.1) hw.2.2.2 hR
theorem g_runV {index fr lo maxL n mc ms k ci : Nat} {y : MethodName} {bytes : ByteArray} {ret : Option FieldType} {As : List Value} {o : sO} {fs : List Value} {T : u_T} {N : Nat} (B : sB p l s m meth c args cc nL own D cy ad) (h : sH D cy ad X σ s H locs) (hM : sMet l y (sWs y bytes maxL ret) fr lo mc ms D cy ad X σ (.ref (ad k) :: As) o X' σ') (hw : sCallV own index y bytes maxL ret n) (hR : fr + 1 ≤ R.frames ∧ 8 + (maxL + 11) + lo ≤ R.locals)
    (hk : k < 63) (he : sRow cy ad X k (σ k) = .inr (ci, fs)) (hc : sCl[ci]? = some (y.cls, T, N)) (hn : As.length = n) (hsz : nL = ls.size) (hst : st0 = As.reverse ++ .ref (ad k) :: rest) (hcat : (rest.map fun v => v.category).sum ≤ 8) (hdg : decode cc pc = .ok (.invokevirtual index, 3)) (hf : cells + mc ≤ R.cells ∧ slots + ms ≤ R.slots) :
    vx_Run p l e R s m args below meth c H locs cells slots mc ms (F0 m pc ls st0) rest (sQc D cy ad o X' σ' H.size (Value.ref (ad k) :: As).toArray) (sXc D cy ad o X' σ' H.size) (sFree ad H.size) :=
  vx_runV (As := As) (Ts := sT) ⟨B.1, B.2.1, B.2.2.1, B.2.2.2.1, B.2.2.2.2.1⟩ (hM H.size) ⟨sCallB (args := args) B.2.2.2.2.1 hw.1 hR, B.2.2.2.2.1 _ hw.2.1, B.2.2.2.2.1 _ hw.2.2⟩
    ⟨sBlind, va_recv B.2.2.2.2.2.1.1 h.1 hc (q0 := k) (by rw [sW_at hk, he]), sPreAt B h _⟩ rfl hn hsz.symm hst (lv_room hcat) hdg hf
theorem g_runS {index fr lo maxL n mc ms : Nat} {y : MethodName} {bytes : ByteArray} {ret : Option FieldType} {As : List Value} {o : sO} (B : sB p l s m meth c args cc nL own D cy ad) (h : sH D cy ad X σ s H locs) (hM : sMet l y (sWs y bytes maxL ret) fr lo mc ms D cy ad X σ As o X' σ') (hw : sCallS own index y bytes maxL ret n) (hR : fr + 1 ≤ R.frames ∧ 8 + (maxL + 11) + lo ≤ R.locals)
    (hn : As.length = n) (hsz : nL = ls.size) (hst : st0 = As.reverse ++ rest) (hcat : (rest.map fun v => v.category).sum ≤ 8) (hdg : decode cc pc = .ok (.invokestatic index, 3)) (hf : cells + mc ≤ R.cells ∧ slots + ms ≤ R.slots) :
    vx_Run p l e R s m args below meth c H locs cells slots mc ms (F0 m pc ls st0) rest (sQc D cy ad o X' σ' H.size As.toArray) (sXc D cy ad o X' σ' H.size) (sFree ad H.size) :=
  vx_runS (As := As) (Ts := sT) ⟨B.1, B.2.1, B.2.2.1, B.2.2.2.1, B.2.2.2.2.1⟩ (hM H.size) ⟨sCallB (args := args) B.2.2.2.2.1 hw.1 hR, B.2.2.2.2.1 _ hw.2⟩
    ⟨sBlind, sPreAt B h _⟩ rfl hn hsz.symm hst (lv_room hcat) hdg hf
/-- a static method of a nest mate -/
theorem g_runSN {index fr lo maxL n mc ms : Nat} {y : MethodName} {bytes : ByteArray} {ret : Option FieldType} {As : List Value} {o : sO} {host : String} (B : sB p l s m meth c args cc nL own D cy ad) (h : sH D cy ad X σ s H locs) (hM : sMet l y (sWs y bytes maxL ret) fr lo mc ms D cy ad X σ As o X' σ') (hw1 : Cond.code y bytes maxL ret ∈ sT) (hw2 : (own, index, y, host) ∈ sNest) (hw3 : Cond.initialized y.cls ∈ sT) (hw4 : Cond.static y ∈ sT) (hd : y.cls ≠ "java/lang/invoke/MethodHandle" ∧ y.cls ≠ "java/lang/invoke/VarHandle" ∧ (parseMethodDescriptor y.desc).map (fun d => d.parameters.length) = some n) (hR : fr + 1 ≤ R.frames ∧ 8 + (maxL + 11) + lo ≤ R.locals)
    (hn : As.length = n) (hsz : nL = ls.size) (hst : st0 = As.reverse ++ rest) (hcat : (rest.map fun v => v.category).sum ≤ 8) (hdg : decode cc pc = .ok (.invokestatic index, 3)) (hf : cells + mc ≤ R.cells ∧ slots + ms ≤ R.slots) :
    vx_Run p l e R s m args below meth c H locs cells slots mc ms (F0 m pc ls st0) rest (sQc D cy ad o X' σ' H.size As.toArray) (sXc D cy ad o X' σ' H.size) (sFree ad H.size) :=
  vx_runSN (As := As) (Ts := sT) ⟨B.1, B.2.1, B.2.2.1, B.2.2.2.1, B.2.2.2.2.1⟩ (hM H.size) ⟨va_cnB (rm := { frames := fr, cells := mc, slots := ms, locals := lo }) n B.2.2.2.2.1 (sGood hw1) rfl rfl rfl (B.2.2.2.2.2.1.2.2.2.2.2.1 _ hw2) (B.2.2.2.2.1 _ hw3) hd hR, B.2.2.2.2.1 _ hw4, trivial⟩
    ⟨sBlind, sPreAt B h _⟩ rfl hn hsz.symm hst (lv_room hcat) hdg hf
/-! ends -/
theorem sE_any {v : Option Value} (h : sH D cy ad X σ s H locs) : ∀ t : State, t.heap = H → s.WarmedH t.vm → sQc D cy ad (.inr v) X σ s.heap.size args s (.returned v) t := fun t ht _ =>
  ⟨v, rfl, rfl, by rw [ht]; exact h.1, h.2.F ht⟩
theorem sE_i (B : sB p l s m meth c args cc nL own D cy ad) (hr : meth.sig.returnType = some .int) (h : sH D cy ad X σ s H locs) {v : Int32} (hdg : decode cc pc = .ok (.ireturn, 1)) : W p l e R s m args below meth c H locs cells slots (sQ below args s cells slots D cy ad (.inr (some (.int v))) X σ) (F0 m pc ls [.int v]) :=
  vx_ret (W.iret B.1 B.2.1 hr (sE_any h) h.2.2.2 hdg B.2.2.2.2.2.2.2.1)
theorem sE_z {ty : FieldType} (B : sB p l s m meth c args cc nL own D cy ad) (hr : meth.sig.returnType = some ty) (h : sH D cy ad X σ s H locs) {v : Int32} (hn : narrow ty (.int v) = .int v) (hdg : decode cc pc = .ok (.ireturn, 1)) : W p l e R s m args below meth c H locs cells slots (sQ below args s cells slots D cy ad (.inr (some (.int v))) X σ) (F0 m pc ls [.int v]) :=
  vx_ret (W.zret B.1 B.2.1 hr hn (sE_any h) h.2.2.2 hdg B.2.2.2.2.2.2.2.1)
theorem sE_l (B : sB p l s m meth c args cc nL own D cy ad) (hr : meth.sig.returnType = some .long) (h : sH D cy ad X σ s H locs) {v : Int64} (hdg : decode cc pc = .ok (.lreturn, 1)) : W p l e R s m args below meth c H locs cells slots (sQ below args s cells slots D cy ad (.inr (some (.long v))) X σ) (F0 m pc ls [.long v]) :=
  vx_ret (W.lret B.1 B.2.1 hr (sE_any h) h.2.2.2 hdg B.2.2.2.2.2.2.2.1)
theorem sE_f (B : sB p l s m meth c args cc nL own D cy ad) (hr : meth.sig.returnType = some .float) (h : sH D cy ad X σ s H locs) {v : UInt32} (hdg : decode cc pc = .ok (.freturn, 1)) : W p l e R s m args below meth c H locs cells slots (sQ below args s cells slots D cy ad (.inr (some (.float v))) X σ) (F0 m pc ls [.float v]) :=
  vx_ret (W.fret B.1 B.2.1 hr (sE_any h) h.2.2.2 hdg B.2.2.2.2.2.2.2.1)
theorem sE_d (B : sB p l s m meth c args cc nL own D cy ad) (hr : meth.sig.returnType = some .double) (h : sH D cy ad X σ s H locs) {v : UInt64} (hdg : decode cc pc = .ok (.dreturn, 1)) : W p l e R s m args below meth c H locs cells slots (sQ below args s cells slots D cy ad (.inr (some (.double v))) X σ) (F0 m pc ls [.double v]) :=
  vx_ret (W.dret B.1 B.2.1 hr (sE_any h) h.2.2.2 hdg B.2.2.2.2.2.2.2.1)
theorem sE_v (B : sB p l s m meth c args cc nL own D cy ad) (hr : meth.sig.returnType = none) (h : sH D cy ad X σ s H locs) (hdg : decode cc pc = .ok (.return_, 1)) : W p l e R s m args below meth c H locs cells slots (sQ below args s cells slots D cy ad (.inr none) X σ) (F0 m pc ls []) :=
  vx_ret (W.vret B.1 B.2.1 hr (sE_any h) h.2.2.2 hdg B.2.2.2.2.2.2.2.1)
theorem sE_a {C : String} (B : sB p l s m meth c args cc nL own D cy ad) (hr : meth.sig.returnType = some (.object C)) (h : sH D cy ad X σ s H locs) {a : Nat} (hdg : decode cc pc = .ok (.areturn, 1)) : W p l e R s m args below meth c H locs cells slots (sQ below args s cells slots D cy ad (.inr (some (.ref a))) X σ) (F0 m pc ls [.ref a]) :=
  vx_ret (W.aret B.1 B.2.1 hr (Or.inl ⟨C, rfl⟩) (Or.inr ⟨a, rfl⟩) (sE_any h) h.2.2.2 hdg B.2.2.2.2.2.2.2.1)
/-- a callee's throw goes on to the caller -/
theorem sE_out {E : String} {ce : Cell} {q : Addr} {mc ms : Nat} (B : sB p l s m meth c args cc nL own D cy ad) (htab : ∀ x ∈ c.exceptionTable.toList, False) (h : sH D cy ad X σ s H locs) (hcell : H[q]? = some ce) (hv : ce.vm = .none) (hcl : s.vm.findClass E = some ce.cls) (hc : cells ≤ mc) (hs : slots ≤ ms) :
    vx_W p l e R s m args below meth c H locs cells slots (sQ below args s mc ms D cy ad (.inl E) X σ) (F0 m pc ls rest) q :=
  vx_out (fun x hx => (htab x hx).elim) B.2.2.2.2.2.2.2.1 hcell hv hcl (fun t ht _ => ⟨rfl, by rw [ht]; exact h.1, h.2.F ht⟩) h.2.2.2 hc hs
def sThrW (E : String) : List Cond := [Cond.castable E E, Cond.declares (Bundle.initS "java/lang/RuntimeException"), Cond.declares (Bundle.initS "java/lang/Exception"), Cond.declares (Bundle.initS Bundle.tN)]
/-- throw new E("text") -/
theorem sE_thr {E text : String} {ik is ic : Nat} (B : sB p l s m meth c args cc nL own D cy ad) (htab : ∀ x ∈ c.exceptionTable.toList, False) (h : sH D cy ad X σ s H locs) (hsz : nL = ls.size) (names : List String) (hcls : Bundle.fit E = true) (hnames : ∀ n ∈ names, Bundle.fit n = true) (hk : Cond.classLink own ik E ∈ sT) (hini : Cond.initialized E ∈ sT) (hstr : (own, is, text) ∈ sStrs) (hE : E ∈ sExs)
    (hg : ∀ w ∈ (vx_atS own ic E names).filter goodWord, w ∈ sT) (hng : ∀ w ∈ (vx_atS own ic E names).filter (fun w => !goodWord w), w ∈ sThrW E) (hot : ∀ w ∈ vx_atS own ic E names, vx_ot w = true)
    (d0 : decode cc pc = .ok (.new ik, 3)) (d3 : decode cc (pc + 3) = .ok (.dup, 1)) (d4 : decode cc (pc + 4) = .ok (.ldc is, 2)) (d6 : decode cc (pc + 6) = .ok (.invokespecial ic, 3)) (d9 : decode cc (pc + 9) = .ok (.athrow, 1))
    (hRf : names.length + 3 < R.frames) (hRl : (rest.map fun v => v.category).sum + (13 * (names.length + 1) + 43) ≤ R.locals) (hRc : cells + 1 ≤ R.cells) (hRs : slots + 6 ≤ R.slots) {mc ms : Nat} (hc : cells + 1 ≤ mc) (hs : slots + 6 ≤ ms) :
    W p l e R s m args below meth c H locs cells slots (sQ below args s mc ms D cy ad (.inl E) X σ) (F0 m pc ls rest) := by
  obtain ⟨sa, hsa⟩ := B.2.2.2.2.2.1.2.2.2.1 _ hstr
  have hca := B.2.2.2.2.2.1.2.2.2.2.1 E hE
  have hts := B.2.2.2.2.1
  refine vx_throwS (names := names) (A := sFree ad s.heap.size) B.1 B.2.1 B.2.2.2.2.2.2.2.2 B.2.2.2.1 hcls hnames (hts _ hk) (hts _ hini) hsa (vx_hat (B := sThrW E) (fun w hw => hts w (hg w hw)) hng (vx_c (va_Nw.use rfl hca) (vx_c (va_Nw.use rfl (B.2.2.2.2.2.1.2.2.2.2.2.2.2 _ (List.mem_of_getElem? (i := 0) rfl))) (vx_c (va_Nw.use rfl (B.2.2.2.2.2.1.2.2.2.2.2.2.2 _ (List.mem_of_getElem? (i := 1) rfl))) (vx_c (va_Nw.use rfl (B.2.2.2.2.2.1.2.2.2.2.2.2.2 _ (List.mem_of_getElem? (i := 2) rfl))) vx_n))))) (fun w hw => ?_) B.2.2.2.2.2.1.2.1 B.2.2.2.2.2.1.2.2.1 h.2 (hsz.symm.trans B.2.2.1.symm) d0 d3 d4 d6 d9 (fun x hx => (htab x hx).elim) hRf hRl hRc hRs B.2.2.2.2.2.2.2.1 (fun t _ hz hq => ⟨rfl, ?_, ?_⟩) h.2.2.2 hc hs
  · rcases List.mem_cons.mp hw with rfl | hw
    · rfl
    · rcases List.mem_cons.mp hw with rfl | hw
      · rfl
      · exact hot w hw
  · exact h.1.kept (fun k q hk => hq q.1 (h.1 k q hk).lt)
  · exact ⟨Nat.le_trans h.2.1 hz, fun q h1 h2 => (hq q (Nat.lt_of_lt_of_le h1 h.2.1)).trans (h.2.2.1 q h1 h2)⟩
/-- the text by a wide index -/
theorem sE_thrW {E text : String} {ik is ic : Nat} (B : sB p l s m meth c args cc nL own D cy ad) (htab : ∀ x ∈ c.exceptionTable.toList, False) (h : sH D cy ad X σ s H locs) (hsz : nL = ls.size) (names : List String) (hcls : Bundle.fit E = true) (hnames : ∀ n ∈ names, Bundle.fit n = true) (hk : Cond.classLink own ik E ∈ sT) (hini : Cond.initialized E ∈ sT) (hstr : (own, is, text) ∈ sStrs) (hE : E ∈ sExs)
    (hg : ∀ w ∈ (vx_atS own ic E names).filter goodWord, w ∈ sT) (hng : ∀ w ∈ (vx_atS own ic E names).filter (fun w => !goodWord w), w ∈ sThrW E) (hot : ∀ w ∈ vx_atS own ic E names, vx_ot w = true)
    (d0 : decode cc pc = .ok (.new ik, 3)) (d3 : decode cc (pc + 3) = .ok (.dup, 1)) (d4 : decode cc (pc + 4) = .ok (.ldc_w is, 3)) (d6 : decode cc (pc + 7) = .ok (.invokespecial ic, 3)) (d9 : decode cc (pc + 10) = .ok (.athrow, 1))
    (hRf : names.length + 3 < R.frames) (hRl : (rest.map fun v => v.category).sum + (13 * (names.length + 1) + 43) ≤ R.locals) (hRc : cells + 1 ≤ R.cells) (hRs : slots + 6 ≤ R.slots) {mc ms : Nat} (hc : cells + 1 ≤ mc) (hs : slots + 6 ≤ ms) :
    W p l e R s m args below meth c H locs cells slots (sQ below args s mc ms D cy ad (.inl E) X σ) (F0 m pc ls rest) := by
  obtain ⟨sa, hsa⟩ := B.2.2.2.2.2.1.2.2.2.1 _ hstr
  have hca := B.2.2.2.2.2.1.2.2.2.2.1 E hE
  have hts := B.2.2.2.2.1
  refine vx_throwSW (names := names) (A := sFree ad s.heap.size) B.1 B.2.1 B.2.2.2.2.2.2.2.2 B.2.2.2.1 hcls hnames (hts _ hk) (hts _ hini) hsa (vx_hat (B := sThrW E) (fun w hw => hts w (hg w hw)) hng (vx_c (va_Nw.use rfl hca) (vx_c (va_Nw.use rfl (B.2.2.2.2.2.1.2.2.2.2.2.2.2 _ (List.mem_of_getElem? (i := 0) rfl))) (vx_c (va_Nw.use rfl (B.2.2.2.2.2.1.2.2.2.2.2.2.2 _ (List.mem_of_getElem? (i := 1) rfl))) (vx_c (va_Nw.use rfl (B.2.2.2.2.2.1.2.2.2.2.2.2.2 _ (List.mem_of_getElem? (i := 2) rfl))) vx_n))))) (fun w hw => ?_) B.2.2.2.2.2.1.2.1 B.2.2.2.2.2.1.2.2.1 h.2 (hsz.symm.trans B.2.2.1.symm) d0 d3 d4 d6 d9 (fun x hx => (htab x hx).elim) hRf hRl hRc hRs B.2.2.2.2.2.2.2.1 (fun t _ hz hq => ⟨rfl, ?_, ?_⟩) h.2.2.2 hc hs
  · rcases List.mem_cons.mp hw with rfl | hw
    · rfl
    · rcases List.mem_cons.mp hw with rfl | hw
      · rfl
      · exact hot w hw
  · exact h.1.kept (fun k q hk => hq q.1 (h.1 k q hk).lt)
  · exact ⟨Nat.le_trans h.2.1 hz, fun q h1 h2 => (hq q (Nat.lt_of_lt_of_le h1 h.2.1)).trans (h.2.2.1 q h1 h2)⟩
/-- where the superclass's constructor stands at another place of the pool than 7 -/
theorem sE_thrX {E text : String} {ik is ic ix pcs : Nat} {rx : ByteArray} (x0 : decode rx 0 = .ok (.aload_n 0, 1)) (x1 : decode rx 1 = .ok (.aload_n 1, 1)) (x2 : decode rx 2 = .ok (.invokespecial ix, 3)) (x5 : decode rx 5 = .ok (.return_, 1)) (B : sB p l s m meth c args cc nL own D cy ad) (htab : ∀ x ∈ c.exceptionTable.toList, False) (h : sH D cy ad X σ s H locs) (hsz : nL = ls.size) (names : List String) (hcls : Bundle.fit E = true) (hnames : ∀ n ∈ names, Bundle.fit n = true) (hk : Cond.classLink own ik E ∈ sT) (hini : Cond.initialized E ∈ sT) (hstr : (own, is, text) ∈ sStrs) (hE : E ∈ sExs)
    (hg : ∀ w ∈ (nx_at own ic E ix rx names).filter goodWord, w ∈ sT) (hng : ∀ w ∈ (nx_at own ic E ix rx names).filter (fun w => !goodWord w), w ∈ sThrW E) (hot : ∀ w ∈ nx_at own ic E ix rx names, vx_ot w = true)
    (d0 : decode cc pc = .ok (.new ik, 3)) (d3 : decode cc (pc + 3) = .ok (.dup, 1)) (d4 : (decode cc (pc + 4) = .ok (.ldc is, 2) ∧ pcs = pc + 6) ∨ (decode cc (pc + 4) = .ok (.ldc_w is, 3) ∧ pcs = pc + 7)) (d6 : decode cc pcs = .ok (.invokespecial ic, 3)) (d9 : decode cc (pcs + 3) = .ok (.athrow, 1))
    (hRf : names.length + 3 < R.frames) (hRl : (rest.map fun v => v.category).sum + (13 * (names.length + 1) + 43) ≤ R.locals) (hRc : cells + 1 ≤ R.cells) (hRs : slots + 6 ≤ R.slots) {mc ms : Nat} (hc : cells + 1 ≤ mc) (hs : slots + 6 ≤ ms) :
    W p l e R s m args below meth c H locs cells slots (sQ below args s mc ms D cy ad (.inl E) X σ) (F0 m pc ls rest) := by
  obtain ⟨sa, hsa⟩ := B.2.2.2.2.2.1.2.2.2.1 _ hstr
  have hca := B.2.2.2.2.2.1.2.2.2.2.1 E hE
  have hts := B.2.2.2.2.1
  refine nx_throw (names := names) (A := sFree ad s.heap.size) B.1 B.2.1 B.2.2.2.2.2.2.2.2 x0 x1 x2 x5 B.2.2.2.1 hcls hnames (hts _ hk) (hts _ hini) hsa (vx_hat (B := sThrW E) (fun w hw => hts w (hg w hw)) hng (vx_c (va_Nw.use rfl hca) (vx_c (va_Nw.use rfl (B.2.2.2.2.2.1.2.2.2.2.2.2.2 _ (List.mem_of_getElem? (i := 0) rfl))) (vx_c (va_Nw.use rfl (B.2.2.2.2.2.1.2.2.2.2.2.2.2 _ (List.mem_of_getElem? (i := 1) rfl))) (vx_c (va_Nw.use rfl (B.2.2.2.2.2.1.2.2.2.2.2.2.2 _ (List.mem_of_getElem? (i := 2) rfl))) vx_n))))) (fun w hw => ?_) B.2.2.2.2.2.1.2.1 B.2.2.2.2.2.1.2.2.1 h.2 (hsz.symm.trans B.2.2.1.symm) d0 d3 d4 d6 d9 (fun x hx => (htab x hx).elim) hRf hRl hRc hRs B.2.2.2.2.2.2.2.1 (fun t _ hz hq => ⟨rfl, ?_, ?_⟩) h.2.2.2 hc hs
  · rcases List.mem_cons.mp hw with rfl | hw
    · rfl
    · rcases List.mem_cons.mp hw with rfl | hw
      · rfl
      · exact hot w hw
  · exact h.1.kept (fun k q hk => hq q.1 (h.1 k q hk).lt)
  · exact ⟨Nat.le_trans h.2.1 hz, fun q h1 h2 => (hq q (Nat.lt_of_lt_of_le h1 h.2.1)).trans (h.2.2.1 q h1 h2)⟩
/-- checks that the functions make -/
def inb (i : Int32) (n : Nat) : Bool := decide (0 ≤ i.toInt) && decide (i.toInt < n)
theorem inb_in {i : Int32} {n : Nat} (h : inb i n = true) : vp_in i n := by
  simp only [inb, Bool.and_eq_true, decide_eq_true_eq] at h
  exact vp_in_iff.mpr h
theorem inb_nI {k n : Nat} (h : k < n) (hn : n < 2 ^ 31) : inb (nI k) n = true := by
  have e := nI_toInt (n := k) (by omega)
  simp only [inb, Bool.and_eq_true, decide_eq_true_eq, e]
  omega
/-- the bounds of a copy of n elements, from sp of n0 to dp of n1 -/
def cpb (sp dp n : Int32) (n0 n1 : Nat) : Bool := decide (0 ≤ sp.toInt) && decide (0 ≤ dp.toInt) && decide (0 ≤ n.toInt) && decide (sp.toInt + n.toInt ≤ n0) && decide (dp.toInt + n.toInt ≤ n1)
theorem cpb_in {sp dp n : Int32} {n0 n1 : Nat} (h : cpb sp dp n n0 n1 = true) : ¬ sp < 0 ∧ ¬ dp < 0 ∧ ¬ n < 0 ∧ sp.toNatClampNeg + n.toNatClampNeg ≤ n0 ∧ dp.toNatClampNeg + n.toNatClampNeg ≤ n1 := by
  simp only [cpb, Bool.and_eq_true, decide_eq_true_eq] at h
  obtain ⟨⟨⟨⟨h1, h2⟩, h3⟩, h4⟩, h5⟩ := h
  have z : (0 : Int32).toInt = 0 := rfl
  refine ⟨?_, ?_, ?_, ?_, ?_⟩
  · rw [Int32.lt_iff_toInt_lt, z]; omega
  · rw [Int32.lt_iff_toInt_lt, z]; omega
  · rw [Int32.lt_iff_toInt_lt, z]; omega
  · show sp.toInt.toNat + n.toInt.toNat ≤ n0; omega
  · show dp.toInt.toNat + n.toInt.toNat ≤ n1; omega
/-- a check ahead of what follows -/
def chk {α : Type} (b : Bool) (k : Option α) : Option α := if b = true then k else none
theorem chk_some {α : Type} {b : Bool} {k : Option α} {r : α} (h : chk b k = some r) : b = true ∧ k = some r := by
  unfold chk at h
  split at h
  · exact ⟨by assumption, h⟩
  · cases h
theorem chk_true {α : Type} {b : Bool} {k : Option α} (h : b = true) : chk b k = k := by unfold chk; rw [if_pos h]
/-- 0 or 1 -/
def isb (x : Int32) : Bool := decide (x = 0) || decide (x = 1)
theorem isb_n {x : Int32} (h : isb x = true) : narrow .boolean (.int x) = .int x := by
  simp only [isb, Bool.or_eq_true, decide_eq_true_eq] at h
  rcases h with rfl | rfl <;> rfl
theorem isb_f {x : Int32} (_ : isb x = true) : fits .boolean (.int x) = true := by
  simp only [isb, Bool.or_eq_true, decide_eq_true_eq] at *
  rcases (by assumption : x = 0 ∨ x = 1) with rfl | rfl <;> rfl
end ROWS
