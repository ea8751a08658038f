/-! which cell is what; and how the functions are put together -/
section FACTS
variable {cy : Nat → ClassId} {ad : Nat → Nat} {X : sX} {k : Nat}
theorem T_row (h : isT k) : ∀ f, sRow cy ad X k f = .inr (2, [.ref (ad (k + 1)), .ref (ad (k + 2)), .int (f 2)]) := by rcases h with rfl | rfl | rfl | rfl | rfl | rfl <;> exact fun _ => rfl
theorem T_put2 (h : isT k) (f : Nat → Int32) (v : Int32) : sRow cy ad X k (upd f 2 v) = .inr (2, [.ref (ad (k + 1)), .ref (ad (k + 2)), .int v]) := by rw [T_row h]; rfl
theorem T_keys (h : isT k) : ∀ f, sRow cy ad X (k + 1) f = sInt (cy 0) 120 f := by rcases h with rfl | rfl | rfl | rfl | rfl | rfl <;> exact fun _ => rfl
theorem T_vals (h : isT k) : ∀ f, sRow cy ad X (k + 2) f = sInt (cy 0) 120 f := by rcases h with rfl | rfl | rfl | rfl | rfl | rfl <;> exact fun _ => rfl
theorem T_lt (h : isT k) : k < 63 := by rcases h with rfl | rfl | rfl | rfl | rfl | rfl <;> decide
theorem T_lt1 (h : isT k) : k + 1 < 63 := by rcases h with rfl | rfl | rfl | rfl | rfl | rfl <;> decide
theorem T_lt2 (h : isT k) : k + 2 < 63 := by rcases h with rfl | rfl | rfl | rfl | rfl | rfl <;> decide
theorem V_row (h : isV k) : ∀ f, sRow cy ad X k f = .inr (3, [va_rf ((sSrc (f 0)).map ad), .int (f 1), .int (f 2), .int (f 3), .int (f 4), .int (f 5)]) := by rcases h with rfl | rfl | rfl | rfl <;> exact fun _ => rfl
theorem V_lt (h : isV k) : k < 63 := by rcases h with rfl | rfl | rfl | rfl <;> decide
theorem V_put1 (h : isV k) (f : Nat → Int32) (v : Int32) : sRow cy ad X k (upd f 1 v) = .inr (3, [va_rf ((sSrc (f 0)).map ad), .int v, .int (f 2), .int (f 3), .int (f 4), .int (f 5)]) := by rw [V_row h]; rfl
theorem V_put2 (h : isV k) (f : Nat → Int32) (v : Int32) : sRow cy ad X k (upd f 2 v) = .inr (3, [va_rf ((sSrc (f 0)).map ad), .int (f 1), .int v, .int (f 3), .int (f 4), .int (f 5)]) := by rw [V_row h]; rfl
theorem V_put3 (h : isV k) (f : Nat → Int32) (v : Int32) : sRow cy ad X k (upd f 3 v) = .inr (3, [va_rf ((sSrc (f 0)).map ad), .int (f 1), .int (f 2), .int v, .int (f 4), .int (f 5)]) := by rw [V_row h]; rfl
theorem V_put4 (h : isV k) (f : Nat → Int32) (v : Int32) : sRow cy ad X k (upd f 4 v) = .inr (3, [va_rf ((sSrc (f 0)).map ad), .int (f 1), .int (f 2), .int (f 3), .int v, .int (f 5)]) := by rw [V_row h]; rfl
theorem V_put5 (h : isV k) (f : Nat → Int32) (v : Int32) : sRow cy ad X k (upd f 5 v) = .inr (3, [va_rf ((sSrc (f 0)).map ad), .int (f 1), .int (f 2), .int (f 3), .int (f 4), .int v]) := by rw [V_row h]; rfl
theorem sSrc_nI {t : Nat} (h : isT t) : sSrc (nI t) = some t := by rcases h with rfl | rfl | rfl | rfl | rfl | rfl <;> rfl
theorem sSrc_0 : sSrc 0 = none := rfl
theorem sSrc_T {x : Int32} {t : Nat} (h : sSrc x = some t) : isT t := by
  unfold sSrc at h
  repeat' split at h
  all_goals first | (cases h; unfold isT; omega) | cases h
theorem V_put0 (h : isV k) {t : Nat} (ht : isT t) (f : Nat → Int32) : sRow cy ad X k (upd f 0 (nI t)) = .inr (3, [.ref (ad t), .int (f 1), .int (f 2), .int (f 3), .int (f 4), .int (f 5)]) := by
  rw [V_row h]
  have e : upd f 0 (nI t) 0 = nI t := rfl
  rw [e, sSrc_nI ht]
  rfl
theorem V_put0n (h : isV k) (f : Nat → Int32) : sRow cy ad X k (upd f 0 0) = .inr (3, [.null, .int (f 1), .int (f 2), .int (f 3), .int (f 4), .int (f 5)]) := by rw [V_row h]; rfl
theorem H_row (h : isH k) : ∀ f, sRow cy ad X k f = .inr (1, [.int (f 0), .ref (ad (k + 1)), .ref (ad (k + 2)), .ref (ad (k + 3))]) := by rcases h with rfl | rfl | rfl | rfl <;> exact fun _ => rfl
theorem H_put0 (h : isH k) (f : Nat → Int32) (v : Int32) : sRow cy ad X k (upd f 0 v) = .inr (1, [.int v, .ref (ad (k + 1)), .ref (ad (k + 2)), .ref (ad (k + 3))]) := by rw [H_row h]; rfl
theorem H_kinds (h : isH k) : ∀ f, sRow cy ad X (k + 1) f = sInt (cy 1) 30 f := by rcases h with rfl | rfl | rfl | rfl <;> exact fun _ => rfl
theorem H_keys (h : isH k) : ∀ f, sRow cy ad X (k + 2) f = sInt (cy 0) 30 f := by rcases h with rfl | rfl | rfl | rfl <;> exact fun _ => rfl
theorem H_nums (h : isH k) : ∀ f, sRow cy ad X (k + 3) f = sInt (cy 0) 30 f := by rcases h with rfl | rfl | rfl | rfl <;> exact fun _ => rfl
theorem H_lt (h : isH k) : k < 63 := by rcases h with rfl | rfl | rfl | rfl <;> decide
theorem H_lt1 (h : isH k) : k + 1 < 63 := by rcases h with rfl | rfl | rfl | rfl <;> decide
theorem H_lt2 (h : isH k) : k + 2 < 63 := by rcases h with rfl | rfl | rfl | rfl <;> decide
theorem H_lt3 (h : isH k) : k + 3 < 63 := by rcases h with rfl | rfl | rfl | rfl <;> decide
theorem S_row : ∀ f, sRow cy ad X 0 f = .inr (4, [.ref (ad 1), .ref (ad 2), .ref (ad 3), .ref (ad 4), .ref (ad 5), .int (f 5), .int (f 6), .int (f 7)]) := fun _ => rfl
theorem S_put5 (f : Nat → Int32) (v : Int32) : sRow cy ad X 0 (upd f 5 v) = .inr (4, [.ref (ad 1), .ref (ad 2), .ref (ad 3), .ref (ad 4), .ref (ad 5), .int v, .int (f 6), .int (f 7)]) := rfl
theorem S_put6 (f : Nat → Int32) (v : Int32) : sRow cy ad X 0 (upd f 6 v) = .inr (4, [.ref (ad 1), .ref (ad 2), .ref (ad 3), .ref (ad 4), .ref (ad 5), .int (f 5), .int v, .int (f 7)]) := rfl
theorem S_put7 (f : Nat → Int32) (v : Int32) : sRow cy ad X 0 (upd f 7 v) = .inr (4, [.ref (ad 1), .ref (ad 2), .ref (ad 3), .ref (ad 4), .ref (ad 5), .int (f 5), .int (f 6), .int v]) := rfl
theorem B_row : ∀ f, sRow cy ad X 4 f = .inr (0, [.ref (ad 15), .ref (ad 18), .ref (ad 21), .ref (ad 40)]) := fun _ => rfl
theorem M_row : ∀ f, sRow cy ad X 44 f = .inr (5, [.ref (ad 45), .ref (ad 46), .ref (ad 47), .ref (ad 48), .ref (ad 49), .ref (ad 50), .ref (ad 51), .ref (ad 52), .ref (ad 53), .ref (ad 54), .ref (ad 55), .ref (ad 56), .ref (ad 57), .ref (ad 58), .ref (ad 59), .int (f 15), .ref (ad 60), .int (f 17), .int (f 18), .int (f 19), .int (f 20)]) := fun _ => rfl
theorem M_put15 (f : Nat → Int32) (v : Int32) : sRow cy ad X 44 (upd f 15 v) = .inr (5, [.ref (ad 45), .ref (ad 46), .ref (ad 47), .ref (ad 48), .ref (ad 49), .ref (ad 50), .ref (ad 51), .ref (ad 52), .ref (ad 53), .ref (ad 54), .ref (ad 55), .ref (ad 56), .ref (ad 57), .ref (ad 58), .ref (ad 59), .int v, .ref (ad 60), .int (f 17), .int (f 18), .int (f 19), .int (f 20)]) := rfl
theorem M_put17 (f : Nat → Int32) (v : Int32) : sRow cy ad X 44 (upd f 17 v) = .inr (5, [.ref (ad 45), .ref (ad 46), .ref (ad 47), .ref (ad 48), .ref (ad 49), .ref (ad 50), .ref (ad 51), .ref (ad 52), .ref (ad 53), .ref (ad 54), .ref (ad 55), .ref (ad 56), .ref (ad 57), .ref (ad 58), .ref (ad 59), .int (f 15), .ref (ad 60), .int v, .int (f 18), .int (f 19), .int (f 20)]) := rfl
theorem M_put18 (f : Nat → Int32) (v : Int32) : sRow cy ad X 44 (upd f 18 v) = .inr (5, [.ref (ad 45), .ref (ad 46), .ref (ad 47), .ref (ad 48), .ref (ad 49), .ref (ad 50), .ref (ad 51), .ref (ad 52), .ref (ad 53), .ref (ad 54), .ref (ad 55), .ref (ad 56), .ref (ad 57), .ref (ad 58), .ref (ad 59), .int (f 15), .ref (ad 60), .int (f 17), .int v, .int (f 19), .int (f 20)]) := rfl
theorem M_put19 (f : Nat → Int32) (v : Int32) : sRow cy ad X 44 (upd f 19 v) = .inr (5, [.ref (ad 45), .ref (ad 46), .ref (ad 47), .ref (ad 48), .ref (ad 49), .ref (ad 50), .ref (ad 51), .ref (ad 52), .ref (ad 53), .ref (ad 54), .ref (ad 55), .ref (ad 56), .ref (ad 57), .ref (ad 58), .ref (ad 59), .int (f 15), .ref (ad 60), .int (f 17), .int (f 18), .int v, .int (f 20)]) := rfl
theorem M_put20 (f : Nat → Int32) (v : Int32) : sRow cy ad X 44 (upd f 20 v) = .inr (5, [.ref (ad 45), .ref (ad 46), .ref (ad 47), .ref (ad 48), .ref (ad 49), .ref (ad 50), .ref (ad 51), .ref (ad 52), .ref (ad 53), .ref (ad 54), .ref (ad 55), .ref (ad 56), .ref (ad 57), .ref (ad 58), .ref (ad 59), .int (f 15), .ref (ad 60), .int (f 17), .int (f 18), .int (f 19), .int v]) := rfl
/-- a place in a short row -/
theorem inb_cases {i : Int32} {n : Nat} (h : inb i n = true) : i.toNatClampNeg < n := by
  simp only [inb, Bool.and_eq_true, decide_eq_true_eq] at h
  show i.toInt.toNat < n
  omega
theorem maps_T {i : Int32} (h : inb i 3 = true) : isT (6 + 3 * i.toNatClampNeg) := by
  have := inb_cases h
  unfold isT
  omega
theorem views_V {i : Int32} (h : inb i 4 = true) : isV (24 + i.toNatClampNeg) := by
  have := inb_cases h
  unfold isV
  omega
theorem hists_H {i : Int32} (h : inb i 3 = true) : isH (28 + 4 * i.toNatClampNeg) := by
  have := inb_cases h
  unfold isH
  omega
theorem maps_at {i : Int32} (h : inb i 3 = true) : (va_up (va_up (va_up (fun _ => none) 0 (some (ad 6))) 1 (some (ad 9))) 2 (some (ad 12))) i.toNatClampNeg = some (ad (6 + 3 * i.toNatClampNeg)) := by
  have := inb_cases h
  generalize i.toNatClampNeg = j at this ⊢
  match j, this with
  | 0, _ => rfl
  | 1, _ => rfl
  | 2, _ => rfl
theorem views_at {i : Int32} (h : inb i 4 = true) : (va_up (va_up (va_up (va_up (fun _ => none) 0 (some (ad 24))) 1 (some (ad 25))) 2 (some (ad 26))) 3 (some (ad 27))) i.toNatClampNeg = some (ad (24 + i.toNatClampNeg)) := by
  have := inb_cases h
  generalize i.toNatClampNeg = j at this ⊢
  match j, this with
  | 0, _ => rfl
  | 1, _ => rfl
  | 2, _ => rfl
  | 3, _ => rfl
theorem hists_at {i : Int32} (h : inb i 3 = true) : (va_up (va_up (va_up (fun _ => none) 0 (some (ad 28))) 1 (some (ad 32))) 2 (some (ad 36))) i.toNatClampNeg = some (ad (28 + 4 * i.toNatClampNeg)) := by
  have := inb_cases h
  generalize i.toNatClampNeg = j at this ⊢
  match j, this with
  | 0, _ => rfl
  | 1, _ => rfl
  | 2, _ => rfl
end FACTS
def isTb (k : Nat) : Bool := decide (k = 6 ∨ k = 9 ∨ k = 12 ∨ k = 15 ∨ k = 18 ∨ k = 21)
def isVb (k : Nat) : Bool := decide (k = 24 ∨ k = 25 ∨ k = 26 ∨ k = 27)
def isHb (k : Nat) : Bool := decide (k = 28 ∨ k = 32 ∨ k = 36 ∨ k = 40)
theorem isTb_T {k : Nat} (h : isTb k = true) : isT k := of_decide_eq_true (p := k = 6 ∨ k = 9 ∨ k = 12 ∨ k = 15 ∨ k = 18 ∨ k = 21) h
theorem isVb_V {k : Nat} (h : isVb k = true) : isV k := of_decide_eq_true (p := k = 24 ∨ k = 25 ∨ k = 26 ∨ k = 27) h
theorem isHb_H {k : Nat} (h : isHb k = true) : isH k := of_decide_eq_true (p := k = 28 ∨ k = 32 ∨ k = 36 ∨ k = 40) h
/-- then, of a function that writes; and of one that may throw -/
def wthn {α β : Type} (x : Option (α × sM)) (k : α → sM → Option β) : Option β := match x with
  | none => none
  | some q => k q.1 q.2
def rthn {α β : Type} (x : Option α) (k : α → Option β) : Option β := match x with
  | none => none
  | some q => k q
def thn {α β : Type} (x : Option ((String ⊕ α) × sM)) (k : α → sM → Option ((String ⊕ β) × sM)) : Option ((String ⊕ β) × sM) := match x with
  | none => none
  | some (.inl E, σ) => some (.inl E, σ)
  | some (.inr r, σ) => k r σ
/-- a state by its name -/
def stl {β : Type} (S : sM) (k : sM → Option β) : Option β := k S
theorem stl_some {β : Type} {S : sM} {k : sM → Option β} {o : β} (h : stl S k = some o) : ∃ σ, σ = S ∧ k σ = some o := ⟨S, rfl, h⟩
def srcm {α : Type} (o : Option Nat) (a : α) (b : Nat → α) : α := match o with
  | none => a
  | some t => b t
theorem rthn_some {α β : Type} {x : Option α} {k : α → Option β} {o : β} (h : rthn x k = some o) : ∃ r, x = some r ∧ k r = some o := by
  cases x with
  | none => cases h
  | some q => exact ⟨q, rfl, h⟩
theorem wthn_some {α β : Type} {x : Option (α × sM)} {k : α → sM → Option β} {o : β} (h : wthn x k = some o) : ∃ r σ, x = some (r, σ) ∧ k r σ = some o := by
  cases x with
  | none => cases h
  | some q => exact ⟨q.1, q.2, rfl, h⟩
theorem thn_cases {α β : Type} {x : Option ((String ⊕ α) × sM)} {k : α → sM → Option ((String ⊕ β) × sM)} {o : (String ⊕ β) × sM} (h : thn x k = some o) : (∃ E σ, x = some (.inl E, σ) ∧ o = (.inl E, σ)) ∨ ∃ r σ, x = some (.inr r, σ) ∧ k r σ = some o := by
  match x, h with
  | some (.inl E, σ), h => cases h; exact Or.inl ⟨E, σ, rfl, rfl⟩
  | some (.inr r, σ), h => exact Or.inr ⟨r, σ, rfl, h⟩
theorem srcm_cases {α : Type} {o : Option Nat} {a : Option α} {b : Nat → Option α} {r : α} (h : srcm o a b = some r) : (o = none ∧ a = some r) ∨ ∃ t, o = some t ∧ b t = some r := by
  cases o with
  | none => exact Or.inl ⟨rfl, h⟩
  | some t => exact Or.inr ⟨t, rfl, h⟩
def oI : String ⊕ Int32 → sO | .inl E => .inl E | .inr v => .inr (some (.int v))
def oL : String ⊕ Int64 → sO | .inl E => .inl E | .inr v => .inr (some (.long v))
def oF : String ⊕ UInt32 → sO | .inl E => .inl E | .inr v => .inr (some (.float v))
def oD : String ⊕ UInt64 → sO | .inl E => .inl E | .inr v => .inr (some (.double v))
def oV : String ⊕ Unit → sO | .inl E => .inl E | .inr _ => .inr none
def oA (ad : Nat → Nat) : String ⊕ Nat → sO | .inl E => .inl E | .inr v => .inr (some (.ref (ad v)))
/-- no NaN -/
def nn32 (x : UInt32) : Bool := decide (x &&& 0x7fffffff ≤ 0x7f800000)
def nn64 (x : UInt64) : Bool := decide (x &&& 0x7fffffffffffffff ≤ 0x7ff0000000000000)
theorem nn32_n {x : UInt32} (h : nn32 x = true) : vf_n32 x := of_decide_eq_true (p := x &&& 0x7fffffff ≤ 0x7f800000) h
theorem nn64_n {x : UInt64} (h : nn64 x = true) : vf_n64 x := of_decide_eq_true (p := x &&& 0x7fffffffffffffff ≤ 0x7ff0000000000000) h
/-- how far a loop may go -/
def FU : Nat := 200
/-- to go on at pc, with those locals and that stack, over the room σ -/
def sGo (p : Program) (l : Launch) (e : Env) (R : Room) (s : State) (m : MethodId) (args : Array Value) (below : List Frame) (meth : Method) (c : Code) (D : va_G) (cy : Nat → ClassId) (ad : Nat → Nat) (X : sX) (nL : Nat) (Q : State → Prop) (σ : sM) (pc : Nat) (lv : List (Nat × Value)) (st : List Value) : Prop :=
  ∀ (H : Heap) (locs : List Loc) (ls : Array Slot), sH D cy ad X σ s H locs → lv_has ls nL lv → W p l e R s m args below meth c H locs 0 0 Q (F0 m pc ls st)
section SRC
variable {p : Program} {l : Launch} {e : Env} {R : Room} {s : State} {m : MethodId} {args : Array Value} {below : List Frame} {meth : Method} {c : Code} {H : Heap} {locs : List Loc} {cells slots : Nat} {Q : State → Prop} {cc : ByteArray} {nL : Nat} {own : String} {D : va_G} {cy : Nat → ClassId} {ad : Nat → Nat} {X X' : sX} {σ σ' : sM} {pc : Nat} {ls : Array Slot} {rest st0 : List Value}
theorem g_src0 (B : sB p l s m meth c args cc nL own D cy ad) (h : sH D cy ad X σ s H locs) (k : Nat) (hV : isV k) {index : Nat} (hin : ∀ w ∈ u_ws RX3 TX3 6, w ∈ sT) (hlink : Cond.fieldLink own index RX3 (TX3 0).2.1 (TX3 0).2.2.1 ∈ sT) (hs : sSrc (σ k 0) = none) (hdg : decode cc pc = .ok (.getfield index, 3))
    (kk : W p l e R s m args below meth c H locs cells slots Q (F0 m (pc + 3) ls (.null :: rest))) : W p l e R s m args below meth c H locs cells slots Q (F0 m pc ls (.ref (ad k) :: rest)) :=
  g_get B h k (V_lt hV) (C := RX3) (T := TX3) (N := 6) (V_row hV _) rfl hin 0 (by decide) hlink rfl (v := .null) (by rw [hs]; rfl) hdg kk
theorem g_src1 (B : sB p l s m meth c args cc nL own D cy ad) (h : sH D cy ad X σ s H locs) (k : Nat) (hV : isV k) {index : Nat} (hin : ∀ w ∈ u_ws RX3 TX3 6, w ∈ sT) (hlink : Cond.fieldLink own index RX3 (TX3 0).2.1 (TX3 0).2.2.1 ∈ sT) {t : Nat} (hs : sSrc (σ k 0) = some t) (hdg : decode cc pc = .ok (.getfield index, 3))
    (kk : W p l e R s m args below meth c H locs cells slots Q (F0 m (pc + 3) ls (.ref (ad t) :: rest))) : W p l e R s m args below meth c H locs cells slots Q (F0 m pc ls (.ref (ad k) :: rest)) :=
  g_get B h k (V_lt hV) (C := RX3) (T := TX3) (N := 6) (V_row hV _) rfl hin 0 (by decide) hlink rfl (v := .ref (ad t)) (by rw [hs]; rfl) hdg kk
end SRC
theorem hin_X0 : ∀ w ∈ u_ws RX0 TX0 4, w ∈ sT := fun w h => sT_of ((by decide +kernel : ∀ w ∈ u_ws RX0 TX0 4, w ∈ tables_1) w h) ((by decide +kernel : ∀ w ∈ u_ws RX0 TX0 4, goodWord w = true) w h)
theorem hin_X1 : ∀ w ∈ u_ws RX1 TX1 4, w ∈ sT := fun w h => sT_of ((by decide +kernel : ∀ w ∈ u_ws RX1 TX1 4, w ∈ tables_1) w h) ((by decide +kernel : ∀ w ∈ u_ws RX1 TX1 4, goodWord w = true) w h)
theorem hin_X2 : ∀ w ∈ u_ws RX2 TX2 3, w ∈ sT := fun w h => sT_of ((by decide +kernel : ∀ w ∈ u_ws RX2 TX2 3, w ∈ tables_1) w h) ((by decide +kernel : ∀ w ∈ u_ws RX2 TX2 3, goodWord w = true) w h)
theorem hin_X3 : ∀ w ∈ u_ws RX3 TX3 6, w ∈ sT := fun w h => sT_of ((by decide +kernel : ∀ w ∈ u_ws RX3 TX3 6, w ∈ tables_1) w h) ((by decide +kernel : ∀ w ∈ u_ws RX3 TX3 6, goodWord w = true) w h)
theorem hin_X4 : ∀ w ∈ u_ws RX4 TX4 8, w ∈ sT := fun w h => sT_of ((by decide +kernel : ∀ w ∈ u_ws RX4 TX4 8, w ∈ tables_1) w h) ((by decide +kernel : ∀ w ∈ u_ws RX4 TX4 8, goodWord w = true) w h)
theorem hin_X5 : ∀ w ∈ u_ws RX5 TX5 21, w ∈ sT := fun w h => sT_of ((by decide +kernel : ∀ w ∈ u_ws RX5 TX5 21, w ∈ tables_1) w h) ((by decide +kernel : ∀ w ∈ u_ws RX5 TX5 21, goodWord w = true) w h)
