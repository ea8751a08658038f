/-! the two rooms say the same -/
abbrev VW : Type := Nat × (Int32 × (Int32 × (Int32 × (Int32 × Nat))))
def VO (o : Option VW) : Prop := match o with
  | none => True
  | some w => w.1 < 3 ∧ (w.2.2.1 = 0 ∨ w.2.2.1 = 1) ∧ (w.2.2.2.2.1 = 0 ∨ w.2.2.2.2.1 = 1) ∧ w.2.2.2.2.2 ≤ 12
def CV (σ : sM) (v : Nat) (o : Option VW) : Prop := match o with
  | none => σ (24 + v) 0 = 0
  | some w => σ (24 + v) 0 = nI (6 + 3 * w.1) ∧ σ (24 + v) 2 = w.2.1 ∧ σ (24 + v) 3 = w.2.2.1 ∧ σ (24 + v) 4 = w.2.2.2.1 ∧ σ (24 + v) 5 = w.2.2.2.2.1 ∧ σ (24 + v) 1 = nI w.2.2.2.2.2
def MV (σ : sM) (v : Nat) (o : Option VW) : Prop := match o with
  | none => σ 48 v = 0
  | some w => σ 48 v = 1 ∧ σ 49 v = nI w.1 ∧ σ 50 v = w.2.1 ∧ σ 52 v = w.2.2.1 ∧ σ 51 v = w.2.2.2.1 ∧ σ 53 v = w.2.2.2.2.1 ∧ σ 54 v = nI w.2.2.2.2.2
def PV (f : Nat → Int32) (a b : Nat) (P : Option Int32) : Prop := match P with
  | none => f a = 0
  | some x => f a = 1 ∧ f b = x
def DV (n : Int32) (f : Nat → Int32) (D : List Int32) : Prop := n = nI D.length ∧ ∀ j, j < D.length → f j = D.getD j 0
def AO (A : Nat → LM) (V : Nat → Option VW) (D : List Int32) : Prop := (∀ i, i < 3 → Srt (A i)) ∧ (∀ v, v < 4 → VO (V v)) ∧ D.length ≤ 60
def CR (σ : sM) (A : Nat → LM) (V : Nat → Option VW) (H : Nat → LH) (D : List Int32) (P : Option Int32) : Prop :=
  (∀ i, i < 3 → TB σ (6 + 3 * i) (A i)) ∧ (∀ v, v < 4 → CV σ v (V v)) ∧ (∀ h, h < 3 → HB σ (28 + 4 * h) (H h)) ∧ DV (σ 0 5) (σ 5) D ∧ PV (σ 0) 6 7 P
def MR (σ : sM) (A : Nat → LM) (V : Nat → Option VW) (H : Nat → LH) (D : List Int32) (P : Option Int32) : Prop :=
  (∀ i, i < 3 → MB σ i (A i)) ∧ (∀ v, v < 4 → MV σ v (V v)) ∧ (∀ h, h < 3 → HM σ h (H h)) ∧ DV (σ 44 17) (σ 60) D ∧ PV (σ 44) 18 19 P
def RR (σ : sM) : Prop := ∃ A V H D P, AO A V D ∧ CR σ A V H D P ∧ MR σ A V H D P
theorem CV.same {σ σ' : sM} {v : Nat} {o : Option VW} (h : CV σ v o) (e : σ' (24 + v) = σ (24 + v)) : CV σ' v o := by
  cases o with
  | none => show σ' (24 + v) 0 = 0; rw [e]; exact h
  | some w =>
    show σ' (24 + v) 0 = _ ∧ σ' (24 + v) 2 = _ ∧ σ' (24 + v) 3 = _ ∧ σ' (24 + v) 4 = _ ∧ σ' (24 + v) 5 = _ ∧ σ' (24 + v) 1 = _
    rw [e]; exact h
theorem MV.same {σ σ' : sM} {v : Nat} {o : Option VW} (h : MV σ v o) (e8 : σ' 48 v = σ 48 v) (e9 : σ' 49 v = σ 49 v) (e0 : σ' 50 v = σ 50 v) (e1 : σ' 51 v = σ 51 v) (e2 : σ' 52 v = σ 52 v) (e3 : σ' 53 v = σ 53 v) (e4 : σ' 54 v = σ 54 v) : MV σ' v o := by
  cases o with
  | none => show σ' 48 v = 0; rw [e8]; exact h
  | some w =>
    show σ' 48 v = _ ∧ σ' 49 v = _ ∧ σ' 50 v = _ ∧ σ' 52 v = _ ∧ σ' 51 v = _ ∧ σ' 53 v = _ ∧ σ' 54 v = _
    rw [e8, e9, e0, e1, e2, e3, e4]; exact h
theorem TB.same' {σ σ' : sM} {t : Nat} {L : LM} (h : TB σ t L) (e0 : σ' t = σ t) (e1 : σ' (t + 1) = σ (t + 1)) (e2 : σ' (t + 2) = σ (t + 2)) : TB σ' t L := ⟨by rw [e0]; exact h.1, h.2.1, fun j hj => by rw [e1, e2]; exact h.2.2 j hj⟩
variable {σ σ' : sM} {A : Nat → LM} {V : Nat → Option VW} {H : Nat → LH} {D : List Int32} {P : Option Int32}
theorem CR.low (h : CR σ A V H D P) (hf : ∀ k, k < 44 → σ' k = σ k) : CR σ' A V H D P :=
  ⟨fun i hi => (h.1 i hi).same' (hf _ (by omega)) (hf _ (by omega)) (hf _ (by omega)), fun v hv => (h.2.1 v hv).same (hf _ (by omega)), fun u hu => (h.2.2.1 u hu).same (hf _ (by omega)) (hf _ (by omega)) (hf _ (by omega)) (hf _ (by omega)), by rw [hf 0 (by omega), hf 5 (by omega)]; exact h.2.2.2.1, by rw [hf 0 (by omega)]; exact h.2.2.2.2⟩
/-- nothing of the reference changed but its scratch -/
def frR (σ σ' : sM) : Prop := (∀ k, k ≠ 44 → k ≠ 59 → σ' k = σ k) ∧ σ' 44 17 = σ 44 17 ∧ σ' 44 18 = σ 44 18 ∧ σ' 44 19 = σ 44 19
theorem frR.rf : frR σ σ := ⟨fun _ _ _ => rfl, rfl, rfl, rfl⟩
theorem frR.tr {σ2 : sM} (a : frR σ σ') (b : frR σ' σ2) : frR σ σ2 := ⟨fun k x y => (b.1 k x y).trans (a.1 k x y), b.2.1.trans a.2.1, b.2.2.1.trans a.2.2.1, b.2.2.2.trans a.2.2.2⟩
theorem frS.R (h : frS σ σ') : frR σ σ' := ⟨h.1, h.2 _ (by omega), h.2 _ (by omega), h.2 _ (by omega)⟩
theorem PV.same {f f' : Nat → Int32} {a b : Nat} (h : PV f a b P) (ea : f' a = f a) (eb : f' b = f b) : PV f' a b P := by
  cases P with
  | none => show f' a = 0; rw [ea]; exact h
  | some x => show f' a = 1 ∧ f' b = x; rw [ea, eb]; exact h
theorem MR.scr (h : MR σ A V H D P) (hf : frR σ σ') : MR σ' A V H D P := by
  have e : ∀ k, 45 ≤ k → k ≠ 59 → σ' k = σ k := fun k hk h9 => hf.1 k (by omega) h9
  refine ⟨fun i hi => (h.1 i hi).same (e _ (by omega) (by omega)) (e _ (by omega) (by omega)) (e _ (by omega) (by omega)), fun v hv => (h.2.1 v hv).same ?_ ?_ ?_ ?_ ?_ ?_ ?_, fun u hu => (h.2.2.1 u hu).same (e _ (by omega) (by omega)) (e _ (by omega) (by omega)) (e _ (by omega) (by omega)) (e _ (by omega) (by omega)), ?_, h.2.2.2.2.same hf.2.2.1 hf.2.2.2⟩
  · rw [e 48 (by omega) (by omega)]
  · rw [e 49 (by omega) (by omega)]
  · rw [e 50 (by omega) (by omega)]
  · rw [e 51 (by omega) (by omega)]
  · rw [e 52 (by omega) (by omega)]
  · rw [e 53 (by omega) (by omega)]
  · rw [e 54 (by omega) (by omega)]
  · rw [hf.2.1, e 60 (by omega) (by omega)]; exact h.2.2.2.1
theorem frR.low (hf : frR σ σ') : ∀ k, k < 44 → σ' k = σ k := fun k hk => hf.1 k (by omega) (by omega)
theorem RR.scr (h : RR σ) (hf : frR σ σ') : RR σ' := by
  obtain ⟨A, V, H, D, P, a, b, c⟩ := h
  exact ⟨A, V, H, D, P, a, b.low hf.low, c.scr hf⟩
/-- the reference tells of a refusal -/
def rf (c : Int32) (σ : sM) : sM := va_up σ 44 (upd (σ 44) 20 c)
theorem rf_20 (c : Int32) (σ : sM) : rf c σ 44 20 = c := by unfold rf; rw [up_s, upd_s]
theorem rf_R (c : Int32) (σ : sM) : frR σ (rf c σ) := ⟨fun k a _ => by unfold rf; rw [up_n a], by unfold rf; rw [up_s, upd_n (by omega)], by unfold rf; rw [up_s, upd_n (by omega)], by unfold rf; rw [up_s, upd_n (by omega)]⟩
theorem rf_k (c : Int32) (σ : sM) {k : Nat} (h : k ≠ 44) : rf c σ k = σ k := by unfold rf; rw [up_n h]
theorem m_ref0 (σ : sM) : f_X5_refused 0 σ = some (0, rf 0 σ) := by
  show (if (0 : Int32) = 0 then some ((0 : Int32), rf 0 σ) else some (1, rf 0 σ)) = _
  rw [if_pos rfl]
theorem m_ref {c : Int32} (h : c ≠ 0) (σ : sM) : f_X5_refused c σ = some (1, rf c σ) := by
  show (if c = 0 then some ((0 : Int32), rf c σ) else some (1, rf c σ)) = _
  rw [if_neg h]
theorem wthn_e {α β : Type} {v : α} {σ1 : sM} {k : α → sM → Option β} : wthn (some (v, σ1)) k = k v σ1 := rfl
theorem thn_r {α β : Type} {r : α} {σ1 : sM} {k : α → sM → Option ((String ⊕ β) × sM)} : thn (some (.inr r, σ1)) k = k r σ1 := rfl
theorem thn_e {α β : Type} {E : String} {σ1 : sM} {k : α → sM → Option ((String ⊕ β) × sM)} : thn (some (.inl E, σ1)) k = some (.inl E, σ1) := rfl
/-- a refusal, as every face of the reference tells it -/
theorem m_no {τ : Type} {c : Int32} (h : c ≠ 0) (h0 : RR σ) {k : Int32 → sM → Option (τ × sM)} {z : τ} (hk : ∀ σ1, k 1 σ1 = some (z, σ1)) : ok (wthn (f_X5_refused c σ) k) (fun p => p.2 44 20 = c ∧ RR p.2) := by
  rw [m_ref h, wthn_e, hk]
  exact ok_ret ⟨rf_20 c σ, h0.scr (rf_R c σ)⟩
/-- a face of the class and the reference's answer to it -/
def agP {τ : Type} (cod : String → Int32) (g : sM → Option (τ × sM)) : (String ⊕ τ) × sM → Prop := fun q => match q.1 with
  | .inl E => cod E ≠ 0 ∧ ok (g q.2) (fun p => p.2 44 20 = cod E ∧ RR p.2)
  | .inr r => ok (g q.2) (fun p => p.2 44 20 = 0 ∧ p.1 = r ∧ RR p.2)
abbrev agF {τ : Type} (cod : String → Int32) (f : Option ((String ⊕ τ) × sM)) (g : sM → Option (τ × sM)) : Prop := ok f (agP cod g)
theorem agF_e {τ : Type} {cod : String → Int32} {g : sM → Option (τ × sM)} {E : String} {c : Int32} (hc : cod E = c) (h0 : c ≠ 0) (h : ok (g σ) (fun p => p.2 44 20 = c ∧ RR p.2)) : agF cod (some (.inl E, σ)) g := ⟨_, rfl, by
  show cod E ≠ 0 ∧ ok (g σ) (fun p => p.2 44 20 = cod E ∧ RR p.2)
  rw [hc]; exact ⟨h0, h⟩⟩
theorem agF_r {τ : Type} {cod : String → Int32} {g : sM → Option (τ × sM)} {r : τ} (h : ok (g σ) (fun p => p.2 44 20 = 0 ∧ p.1 = r ∧ RR p.2)) : agF cod (some (.inr r, σ)) g := ⟨_, rfl, h⟩
abbrev xI : String := "java/lang/IndexOutOfBoundsException"
abbrev xN : String := "java/util/NoSuchElementException"
abbrev xA : String := "java/lang/IllegalArgumentException"
abbrev xS : String := "java/lang/IllegalStateException"
abbrev xM : String := "java/lang/ArithmeticException"
def cod1 (a E : String) : Int32 := if E = a then 1 else 0
def cod2 (a b E : String) : Int32 := if E = a then 1 else if E = b then 2 else 0
def cod3 (a b c E : String) : Int32 := if E = a then 1 else if E = b then 2 else if E = c then 3 else 0
def cod4 (a b c d E : String) : Int32 := if E = a then 1 else if E = b then 2 else if E = c then 3 else if E = d then 4 else 0
theorem cl3 (v : Int32) : (v < 0 ∨ ¬ v < 3) ∨ ∃ i, i < 3 ∧ v = nI i := by
  by_cases h : v < 0
  · exact Or.inl (Or.inl h)
  · by_cases h2 : v < 3
    · obtain ⟨j, h3, h4⟩ := nI_of h
      rw [h4] at h2
      exact Or.inr ⟨j, (nI_ltI (b := 3) h3 (by omega)).mp h2, h4⟩
    · exact Or.inl (Or.inr h2)
theorem cl4 (v : Int32) : (v < 0 ∨ ¬ v < 4) ∨ ∃ i, i < 4 ∧ v = nI i := by
  by_cases h : v < 0
  · exact Or.inl (Or.inl h)
  · by_cases h2 : v < 4
    · obtain ⟨j, h3, h4⟩ := nI_of h
      rw [h4] at h2
      exact Or.inr ⟨j, (nI_ltI (b := 4) h3 (by omega)).mp h2, h4⟩
    · exact Or.inl (Or.inr h2)
theorem map_no {v : Int32} (h : v < 0 ∨ ¬ v < 3) (σ : sM) : f_X4_mapAt v σ = some (.inl xI, σ) := by
  unfold f_X4_mapAt
  rcases h with h | h
  · rw [if_pos h]
  · by_cases h2 : v < 0
    · rw [if_pos h2]
    · rw [if_neg h2, if_neg h]
theorem his_no {v : Int32} (h : v < 0 ∨ ¬ v < 3) (σ : sM) : f_X4_historyAt v σ = some (.inl xI, σ) := by
  unfold f_X4_historyAt
  rcases h with h | h
  · rw [if_pos h]
  · by_cases h2 : v < 0
    · rw [if_pos h2]
    · rw [if_neg h2, if_neg h]
theorem vie_no {v : Int32} (h : v < 0 ∨ ¬ v < 4) (σ : sM) : f_X4_viewAt v σ = some (.inl xI, σ) := by
  unfold f_X4_viewAt
  rcases h with h | h
  · rw [if_pos h]
  · by_cases h2 : v < 0
    · rw [if_pos h2]
    · rw [if_neg h2, if_neg h]
theorem map_at {i : Nat} (h : i < 3) (σ : sM) : f_X4_mapAt (nI i) σ = some (.inr (6 + 3 * i), σ) := by
  have h2 : nI i < (3 : Int32) := nI_lt (b := 3) h (by omega)
  unfold f_X4_mapAt
  rw [if_neg (nI_nlt0 (by omega)), if_pos h2, chk_true (inb_nI (by omega) (by omega)), nI_clamp (by omega)]
theorem his_at {i : Nat} (h : i < 3) (σ : sM) : f_X4_historyAt (nI i) σ = some (.inr (28 + 4 * i), σ) := by
  have h2 : nI i < (3 : Int32) := nI_lt (b := 3) h (by omega)
  unfold f_X4_historyAt
  rw [if_neg (nI_nlt0 (by omega)), if_pos h2, chk_true (inb_nI (by omega) (by omega)), nI_clamp (by omega)]
theorem vie_at {i : Nat} (h : i < 4) (σ : sM) : f_X4_viewAt (nI i) σ = some (.inr (24 + i), σ) := by
  have h2 : nI i < (4 : Int32) := nI_lt (b := 4) h (by omega)
  unfold f_X4_viewAt
  rw [if_neg (nI_nlt0 (by omega)), if_pos h2, chk_true (inb_nI (by omega) (by omega)), nI_clamp (by omega)]
theorem tb3 {i : Nat} (h : i < 3) : isTb (6 + 3 * i) = true := decide_eq_true (isT_m (t3 h))
theorem hb3 {i : Nat} (h : i < 3) : isHb (28 + 4 * i) = true := decide_eq_true (isH_m (h3 h))
theorem vb4 {i : Nat} (h : i < 4) : isVb (24 + i) = true := by
  unfold isVb
  exact decide_eq_true (by omega)
theorem mm_no {v : Int32} (h : v < 0 ∨ ¬ v < 3) (σ : sM) : f_X5_isMap v σ = some 0 := by
  rw [m_isMap]
  by_cases h2 : v < 0
  · rw [if_pos h2]
  · rw [if_neg h2, if_pos]
    have := h.resolve_left h2
    rw [Int32.lt_iff_toInt_lt] at *
    have e2 : (2 : Int32).toInt = 2 := rfl
    have e3 : (3 : Int32).toInt = 3 := rfl
    omega
theorem mh_no {v : Int32} (h : v < 0 ∨ ¬ v < 3) (σ : sM) : f_X5_isHistory v σ = some 0 := by
  have := mm_no h σ
  rw [m_isMap] at this
  rw [m_isHistory]
  exact this
theorem mv_no {v : Int32} (h : v < 0 ∨ ¬ v < 4) (σ : sM) : f_X5_isView v σ = some 0 := by
  rw [m_isView]
  by_cases h2 : v < 0
  · rw [if_pos h2]
  · rw [if_neg h2, if_pos]
    have := h.resolve_left h2
    rw [Int32.lt_iff_toInt_lt] at *
    have e2 : (3 : Int32).toInt = 3 := rfl
    have e3 : (4 : Int32).toInt = 4 := rfl
    omega
theorem mm_at {i : Nat} (h : i < 3) (σ : sM) : f_X5_isMap (nI i) σ = some 1 := by
  have h2 : ¬ (2 : Int32) < nI i := nI_nlt (a := 2) (by omega) (by omega)
  rw [m_isMap, if_neg (nI_nlt0 (by omega)), if_neg h2]
theorem mh_at {i : Nat} (h : i < 3) (σ : sM) : f_X5_isHistory (nI i) σ = some 1 := by
  have h2 : ¬ (2 : Int32) < nI i := nI_nlt (a := 2) (by omega) (by omega)
  rw [m_isHistory, if_neg (nI_nlt0 (by omega)), if_neg h2]
theorem mv_at {i : Nat} (h : i < 4) (σ : sM) : f_X5_isView (nI i) σ = some 1 := by
  have h2 : ¬ (3 : Int32) < nI i := nI_nlt (a := 3) (by omega) (by omega)
  rw [m_isView, if_neg (nI_nlt0 (by omega)), if_neg h2]
/-! one part of the state is put anew -/
def ua {α : Type} (A : Nat → α) (i : Nat) (x : α) : Nat → α := fun j => if j = i then x else A j
theorem ua_s {α : Type} {A : Nat → α} {i : Nat} {x : α} : ua A i x i = x := if_pos rfl
theorem ua_n {α : Type} {A : Nat → α} {i j : Nat} {x : α} (h : j ≠ i) : ua A i x j = A j := if_neg h
theorem AO.tab {i : Nat} {L : LM} (h : AO A V D) (hs : Srt L) : AO (ua A i L) V D := by
  refine ⟨fun j hj => ?_, h.2.1, h.2.2⟩
  by_cases e : j = i
  · rw [e, ua_s]; exact hs
  · rw [ua_n e]; exact h.1 j hj
theorem CR.tab {i : Nat} {L : LM} (h : CR σ A V H D P) (hi : i < 3) (hT : TB σ' (6 + 3 * i) L) (hf : frT σ σ' (6 + 3 * i)) : CR σ' (ua A i L) V H D P := by
  refine ⟨fun j hj => ?_, fun v hv => (h.2.1 v hv).same (hf _ (by omega) (by omega) (by omega)), fun u hu => (h.2.2.1 u hu).frT hf (isT_m (t3 hi)) (isH_m (h3 hu)), ?_, ?_⟩
  · by_cases e : j = i
    · rw [e, ua_s]; exact hT
    · rw [ua_n e]; exact (h.1 j hj).fr hf (isT_m (t3 hi)) (isT_m (t3 hj)) (by omega)
  · rw [hf 0 (by omega) (by omega) (by omega), hf 5 (by omega) (by omega) (by omega)]; exact h.2.2.2.1
  · rw [hf 0 (by omega) (by omega) (by omega)]; exact h.2.2.2.2
theorem MR.tab {i : Nat} {L : LM} (h : MR σ A V H D P) (hM : MB σ' i L) (hf : frM σ σ' i) : MR σ' (ua A i L) V H D P := by
  have e : ∀ k, k ≠ 45 → k ≠ 46 → k ≠ 47 → σ' k = σ k := hf.1
  refine ⟨fun j hj => ?_, fun v hv => (h.2.1 v hv).same ?_ ?_ ?_ ?_ ?_ ?_ ?_, fun u hu => (h.2.2.1 u hu).frM hf, ?_, ?_⟩
  · by_cases q : j = i
    · rw [q, ua_s]; exact hM
    · rw [ua_n q]; exact (h.1 j hj).fr hf q
  · rw [e 48 (by omega) (by omega) (by omega)]
  · rw [e 49 (by omega) (by omega) (by omega)]
  · rw [e 50 (by omega) (by omega) (by omega)]
  · rw [e 51 (by omega) (by omega) (by omega)]
  · rw [e 52 (by omega) (by omega) (by omega)]
  · rw [e 53 (by omega) (by omega) (by omega)]
  · rw [e 54 (by omega) (by omega) (by omega)]
  · rw [e 44 (by omega) (by omega) (by omega), e 60 (by omega) (by omega) (by omega)]; exact h.2.2.2.1
  · rw [e 44 (by omega) (by omega) (by omega)]; exact h.2.2.2.2
theorem frT.hi {i : Nat} (hf : frT σ σ' (6 + 3 * i)) (hi : i < 3) : ∀ k, 44 ≤ k → σ' k = σ k := fun k hk => hf k (by omega) (by omega) (by omega)
theorem frM.low {i : Nat} (hf : frM σ σ' i) : ∀ k, k < 44 → σ' k = σ k := fun k hk => hf.1 k (by omega) (by omega) (by omega)
theorem MR.hi (h : MR σ A V H D P) (hf : ∀ k, 44 ≤ k → σ' k = σ k) : MR σ' A V H D P := by
  have e : ∀ k, 45 ≤ k → σ' k = σ k := fun k hk => hf k (by omega)
  refine ⟨fun i hi => (h.1 i hi).same (e _ (by omega)) (e _ (by omega)) (e _ (by omega)), fun v hv => (h.2.1 v hv).same ?_ ?_ ?_ ?_ ?_ ?_ ?_, fun u hu => (h.2.2.1 u hu).same (e _ (by omega)) (e _ (by omega)) (e _ (by omega)) (e _ (by omega)), ?_, ?_⟩
  · rw [e 48 (by omega)]
  · rw [e 49 (by omega)]
  · rw [e 50 (by omega)]
  · rw [e 51 (by omega)]
  · rw [e 52 (by omega)]
  · rw [e 53 (by omega)]
  · rw [e 54 (by omega)]
  · rw [hf 44 (by omega), e 60 (by omega)]; exact h.2.2.2.1
  · rw [hf 44 (by omega)]; exact h.2.2.2.2
