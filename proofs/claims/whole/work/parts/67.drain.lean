/-! draining -/
variable {σ σ' : sM} {A : Nat → LM} {V : Nat → Option VW} {H : Nat → LH} {D : List Int32} {P : Option Int32}
def pl (v : Int32) (L : LM) : Nat := if v = 0 then 0 else L.length - 1
def drq (v : Int32) : Nat → LM → List Int32 → Option Int32 → List Int32 × Option Int32
  | 0, _, E, P => (E, P)
  | n + 1, L, E, _ => drq v n (er L (pl v L)) (E ++ [kA L (pl v L)]) (some (vA L (pl v L)))
theorem gd_app {E : List Int32} {x : Int32} {j : Nat} (hj : j < (E ++ [x]).length) : (E ++ [x]).getD j 0 = if j = E.length then x else E.getD j 0 := by
  rw [List.getD_eq_getElem?_getD, List.getD_eq_getElem?_getD]
  rw [List.length_append] at hj
  by_cases c : j = E.length
  · rw [if_pos c, List.getElem?_append_right (by omega), c, Nat.sub_self]; rfl
  · have : j < E.length := by simp only [List.length_cons, List.length_nil] at hj; omega
    rw [if_neg c, List.getElem?_append_left this]
theorem CR.d5 (h : CR σ A V H D P) (hf : ∀ k, k ≠ 5 → σ' k = σ k) : ∃ D', CR σ' A V H D' P := by
  refine ⟨(List.range D.length).map (σ' 5), fun i hi => (h.1 i hi).same' (hf _ (by omega)) (hf _ (by omega)) (hf _ (by omega)), fun v hv => (h.2.1 v hv).same (hf _ (by omega)), fun u hu => (h.2.2.1 u hu).same (hf _ (by omega)) (hf _ (by omega)) (hf _ (by omega)) (hf _ (by omega)), ⟨?_, fun j hj => ?_⟩, by rw [hf 0 (by omega)]; exact h.2.2.2.2⟩
  · rw [hf 0 (by omega), List.length_map, List.length_range]; exact h.2.2.2.1.1
  · rw [List.length_map, List.length_range] at hj
    rw [List.getD_eq_getElem?_getD, List.getElem?_map, List.getElem?_range hj]
    rfl
theorem CR.dset {E : List Int32} (h : CR σ A V H D P) (he : ∀ j, j < E.length → σ 5 j = E.getD j 0) : CR (va_up σ 0 (upd (σ 0) 5 (nI E.length))) A V H E P := by
  have hf : ∀ k, k ≠ 0 → va_up σ 0 (upd (σ 0) 5 (nI E.length)) k = σ k := fun k hk => up_n hk
  refine ⟨fun i hi => (h.1 i hi).same' (hf _ (by omega)) (hf _ (by omega)) (hf _ (by omega)), fun v hv => (h.2.1 v hv).same (hf _ (by omega)), fun u hu => (h.2.2.1 u hu).same (hf _ (by omega)) (hf _ (by omega)) (hf _ (by omega)) (hf _ (by omega)), ⟨by rw [up_s, upd_s], fun j hj => by rw [hf 5 (by omega)]; exact he j hj⟩, h.2.2.2.2.same (by rw [up_s, upd_n (by omega)]) (by rw [up_s, upd_n (by omega)])⟩
theorem pl_lt (v : Int32) {L : LM} (h : 0 < L.length) : pl v L < L.length := by unfold pl; split <;> omega
theorem c_drain9 {i : Nat} (hi : i < 3) (v : Int32) : ∀ (N : Nat) (L : LM) (E : List Int32) (D : List Int32) (P : Option Int32) (σ1 : sM) (n : Nat), L.length = N → E.length + N ≤ 60 → N + 1 ≤ n → CR σ1 (ua A i L) V H D P → (∀ j, j < E.length → σ1 5 j = E.getD j 0) →
    ok (b_X4_drain_9 n v (6 + 3 * i) (nI E.length) σ1) (fun q => q.1 = .inr (nI (drq v N L E P).1.length) ∧ CR q.2 (ua A i []) V H (drq v N L E P).1 (drq v N L E P).2 ∧ (drq v N L E P).1.length ≤ 60 ∧ ∀ k, 44 ≤ k → q.2 k = σ1 k) := by
  intro N
  induction N with
  | zero =>
    intro L E D P σ1 n hL hE hn hc he
    obtain ⟨n, rfl⟩ : ∃ z, n = z + 1 := ⟨n - 1, by omega⟩
    have hT := hc.1 i hi
    rw [ua_s] at hT
    have eL : L = [] := List.eq_nil_of_length_eq_zero hL
    have c1 : CR (va_up σ1 0 (upd (σ1 0) 5 (nI E.length))) (ua A i []) V H E P := by rw [eL] at hc; exact hc.dset he
    have fin : ok (stl (va_up σ1 0 (upd (σ1 0) 5 (nI E.length))) (fun σ4 => some ((.inr (nI E.length) : String ⊕ Int32), σ4))) (fun q => q.1 = .inr (nI (drq v 0 L E P).1.length) ∧ CR q.2 (ua A i []) V H (drq v 0 L E P).1 (drq v 0 L E P).2 ∧ (drq v 0 L E P).1.length ≤ 60 ∧ ∀ k, 44 ≤ k → q.2 k = σ1 k) := by
      refine ok_stl (fun σ2 e2 => ok_ret ⟨rfl, ?_, by show E.length ≤ 60; omega, fun k hk => ?_⟩)
      · show CR σ2 (ua A i []) V H E P
        rw [e2]; exact c1
      · show σ2 k = σ1 k
        rw [e2, up_n (by omega)]
    show ok (if (60 : Int32) ≤ nI E.length then _ else _) _
    refine ok_if (fun _ => fin) (fun _ => ok_ip ?_ fin)
    rw [hT.1, hL]; decide
  | succ N ih =>
    intro L E D P σ1 n hL hE hn hc he
    obtain ⟨n, rfl⟩ : ∃ z, n = z + 1 := ⟨n - 1, by omega⟩
    have hT := hc.1 i hi
    rw [ua_s] at hT
    have hp : pl v L < L.length := pl_lt v (by omega)
    have h60 : ¬ (60 : Int32) ≤ nI E.length := nI_ge (b := 60) (by omega) (by omega)
    have go : ok (wthn (f_X4_pollAt (6 + 3 * i) (nI (pl v L)) σ1) (fun vr8 σ8 => chk (inb (nI E.length) 60) (stl (va_up σ8 5 (upd (σ8 5) (nI E.length).toNatClampNeg vr8)) (fun σ10 => b_X4_drain_9 n v (6 + 3 * i) (nI E.length + 1) σ10)))) (fun q => q.1 = .inr (nI (drq v (N + 1) L E P).1.length) ∧ CR q.2 (ua A i []) V H (drq v (N + 1) L E P).1 (drq v (N + 1) L E P).2 ∧ (drq v (N + 1) L E P).1.length ≤ 60 ∧ ∀ k, 44 ≤ k → q.2 k = σ1 k) := by
      refine ok_w (c_pollAt hT (t3 hi) hp) (fun x σ2 q2 => ?_)
      dsimp only at q2
      have c2 := hc.poll hi q2.2.1 q2.2.2.1 q2.2.2.2.1 q2.2.2.2.2
      have f5 : σ2 5 = σ1 5 := q2.2.2.1.1 5 (by omega) (by omega) (by omega) (by omega)
      refine ok_chk (inb_nI (by omega) (by omega)) (ok_stl (fun σ3 e3 => ?_))
      rw [nI_clamp (by omega), q2.1] at e3
      obtain ⟨D', c3⟩ := c2.d5 (σ' := σ3) (fun k hk => by rw [e3, up_n hk])
      have eu : ua (ua A i L) i (er L (pl v L)) = ua A i (er L (pl v L)) := by
        funext j
        by_cases c : j = i
        · rw [c, ua_s, ua_s]
        · rw [ua_n c, ua_n c, ua_n c]
      rw [eu] at c3
      have hE2 : (E ++ [kA L (pl v L)]).length = E.length + 1 := by rw [List.length_append]; rfl
      rw [nI_1, ← hE2]
      have := ih (er L (pl v L)) (E ++ [kA L (pl v L)]) D' (some (vA L (pl v L))) σ3 n (by rw [er_ln hp]; omega) (by omega) (by omega) c3 (fun j hj => by
        rw [gd_app hj, e3, up_s]
        rw [hE2] at hj
        by_cases c : j = E.length
        · rw [if_pos c, c, upd_s]
        · rw [if_neg c, upd_n c, f5]; exact he j (by omega))
      refine ok_mono this (fun q hq => ⟨hq.1, hq.2.1, hq.2.2.1, fun k hk => ?_⟩)
      rw [hq.2.2.2 k hk, e3, up_n (by omega)]
      exact q2.2.2.1.hi hi k hk
    show ok (if (60 : Int32) ≤ nI E.length then _ else _) _
    refine ok_in h60 ?_
    rw [hT.1]
    refine ok_in (nI_nle (by omega) (by omega)) ?_
    by_cases c : v = 0
    · have ep : pl v L = 0 := by unfold pl; rw [if_pos c]
      rw [ep] at go
      exact ok_ip c go
    · have ep : pl v L = L.length - 1 := by unfold pl; rw [if_neg c]
      rw [ep] at go
      refine ok_in c ?_
      rw [one_nI, pk_sub (by omega)]
      exact go
theorem MR.dadd {E : List Int32} {x : Int32} (h : MR σ A V H E P) (hE : E.length < 60) (h60 : σ' 60 = upd (σ 60) E.length x) (h44 : σ' 44 = upd (σ 44) 17 (nI (E.length + 1))) (hf : ∀ k, k ≠ 44 → k ≠ 60 → σ' k = σ k) : MR σ' A V H (E ++ [x]) P := by
  have e : ∀ k, k ≠ 44 → k ≠ 60 → σ' k = σ k := hf
  refine ⟨fun i hi => (h.1 i hi).same (e _ (by omega) (by omega)) (e _ (by omega) (by omega)) (e _ (by omega) (by omega)), fun v hv => (h.2.1 v hv).same ?_ ?_ ?_ ?_ ?_ ?_ ?_, fun u hu => (h.2.2.1 u hu).same (e _ (by omega) (by omega)) (e _ (by omega) (by omega)) (e _ (by omega) (by omega)) (e _ (by omega) (by omega)), ⟨?_, fun j hj => ?_⟩, h.2.2.2.2.same ?_ ?_⟩
  · rw [e 48 (by omega) (by omega)]
  · rw [e 49 (by omega) (by omega)]
  · rw [e 50 (by omega) (by omega)]
  · rw [e 51 (by omega) (by omega)]
  · rw [e 52 (by omega) (by omega)]
  · rw [e 53 (by omega) (by omega)]
  · rw [e 54 (by omega) (by omega)]
  · rw [h44, upd_s, List.length_append]; rfl
  · rw [gd_app hj, h60]
    rw [List.length_append] at hj
    simp only [List.length_cons, List.length_nil] at hj
    by_cases c : j = E.length
    · rw [if_pos c, c, upd_s]
    · rw [if_neg c, upd_n c]; exact h.2.2.2.1.2 j (by omega)
  · rw [h44, upd_n (by omega)]
  · rw [h44, upd_n (by omega)]
theorem m_drain26 {i : Nat} (hi : i < 3) (v : Int32) : ∀ (N : Nat) (L : LM) (E : List Int32) (P : Option Int32) (σ1 : sM) (n : Nat), L.length = N → E.length + N ≤ 60 → N + 1 ≤ n → MR σ1 (ua A i L) V H E P → σ1 44 20 = 0 →
    ok (b_X5_drain_26 n (nI i) v σ1) (fun q => q.1 = nI (drq v N L E P).1.length ∧ MR q.2 (ua A i []) V H (drq v N L E P).1 (drq v N L E P).2 ∧ q.2 44 20 = 0 ∧ ∀ k, k < 44 → q.2 k = σ1 k) := by
  have hin : i < 3 → inb (nI i) 3 = true := fun h => inb_nI h (by omega)
  have hci : (nI i).toNatClampNeg = i := nI_clamp (by omega)
  intro N
  induction N with
  | zero =>
    intro L E P σ1 n hL hE hn hm h20
    obtain ⟨n, rfl⟩ : ∃ z, n = z + 1 := ⟨n - 1, by omega⟩
    have hM := hm.1 i hi
    rw [ua_s] at hM
    have eL : L = [] := List.eq_nil_of_length_eq_zero hL
    show ok (chk (inb (nI i) 3) (if (σ1 47 (nI i).toNatClampNeg) ≤ 0 then _ else _)) _
    refine ok_chk (hin hi) (ok_ip (by rw [hci, hM.1, hL]; decide) (ok_ret ⟨hm.2.2.2.1.1, ?_, h20, fun k _ => rfl⟩))
    rw [eL] at hm
    exact hm
  | succ N ih =>
    intro L E P σ1 n hL hE hn hm h20
    obtain ⟨n, rfl⟩ : ∃ z, n = z + 1 := ⟨n - 1, by omega⟩
    have hM := hm.1 i hi
    rw [ua_s] at hM
    have hp : pl v L < L.length := pl_lt v (by omega)
    have h17 : σ1 44 17 = nI E.length := hm.2.2.2.1.1
    have go : ok (wthn (f_X5_pollsAt (nI i) (nI (pl v L)) σ1) (fun vr12 σ12 => chk (inb (σ1 44 17) 60) (stl (va_up σ12 60 (upd (σ12 60) ((σ1 44 17)).toNatClampNeg vr12)) (fun σ14 => stl (va_up σ14 44 (upd (σ14 44) 17 ((σ14 44 17) + (1 : Int32)))) (fun σ15 => b_X5_drain_26 n (nI i) v σ15))))) (fun q => q.1 = nI (drq v (N + 1) L E P).1.length ∧ MR q.2 (ua A i []) V H (drq v (N + 1) L E P).1 (drq v (N + 1) L E P).2 ∧ q.2 44 20 = 0 ∧ ∀ k, k < 44 → q.2 k = σ1 k) := by
      refine ok_w (m_pollsAt hM hi hp) (fun x σ2 q2 => ?_)
      dsimp only at q2
      have c2 := hm.poll q2.2.1 q2.2.2.1 q2.2.2.2.1 q2.2.2.2.2
      have eu : ua (ua A i L) i (er L (pl v L)) = ua A i (er L (pl v L)) := by
        funext j
        by_cases c : j = i
        · rw [c, ua_s, ua_s]
        · rw [ua_n c, ua_n c, ua_n c]
      rw [eu] at c2
      rw [h17]
      refine ok_chk (inb_nI (by omega) (by omega)) (ok_stl (fun σ3 e3 => ok_stl (fun σ4 e4 => ?_)))
      rw [nI_clamp (by omega), q2.1] at e3
      have h17' : σ3 44 17 = nI E.length := by rw [e3, up_n (by omega)]; exact c2.2.2.2.1.1
      rw [h17', nI_1] at e4
      have c4 : MR σ4 (ua A i (er L (pl v L))) V H (E ++ [kA L (pl v L)]) (some (vA L (pl v L))) :=
        c2.dadd (by omega) (by rw [e4, up_n (by omega), e3, up_s]) (by rw [e4, up_s, e3, up_n (by omega)]) (fun k a b => by rw [e4, up_n a, e3, up_n b])
      have hE2 : (E ++ [kA L (pl v L)]).length = E.length + 1 := by rw [List.length_append]; rfl
      have := ih (er L (pl v L)) (E ++ [kA L (pl v L)]) (some (vA L (pl v L))) σ4 n (by rw [er_ln hp]; omega) (by omega) (by omega) c4 (by
        rw [e4, up_s, upd_n (by omega), e3, up_n (by omega), q2.2.2.1.2.2.2 20 (by omega) (by omega)]; exact h20)
      refine ok_mono this (fun q hq => ⟨hq.1, hq.2.1, hq.2.2.1, fun k hk => ?_⟩)
      rw [hq.2.2.2 k hk, e4, up_n (by omega), e3, up_n (by omega)]
      exact q2.2.2.1.low k hk
    show ok (chk (inb (nI i) 3) (if (σ1 47 (nI i).toNatClampNeg) ≤ 0 then _ else _)) _
    refine ok_chk (hin hi) ?_
    rw [hci, hM.1]
    refine ok_in (nI_nle (by omega) (by omega)) ?_
    by_cases c : v = 0
    · have ep : pl v L = 0 := by unfold pl; rw [if_pos c]
      rw [ep] at go
      exact ok_ip c go
    · have ep : pl v L = L.length - 1 := by unfold pl; rw [if_neg c]
      rw [ep] at go
      refine ok_in c (ok_chk (hin hi) ?_)
      rw [one_nI, pk_sub (by omega)]
      exact go
theorem MR.d0 (h : MR σ A V H D P) : MR (va_up σ 44 (upd (σ 44) 17 0)) A V H [] P := by
  have e : ∀ k, k ≠ 44 → va_up σ 44 (upd (σ 44) 17 0) k = σ k := fun k hk => up_n hk
  refine ⟨fun i hi => (h.1 i hi).same (e _ (by omega)) (e _ (by omega)) (e _ (by omega)), fun v hv => (h.2.1 v hv).same ?_ ?_ ?_ ?_ ?_ ?_ ?_, fun u hu => (h.2.2.1 u hu).same (e _ (by omega)) (e _ (by omega)) (e _ (by omega)) (e _ (by omega)), ⟨by rw [up_s, upd_s]; rfl, fun j hj => absurd hj (Nat.not_lt_zero _)⟩, h.2.2.2.2.same (by rw [up_s, upd_n (by omega)]) (by rw [up_s, upd_n (by omega)])⟩
  · rw [e 48 (by omega)]
  · rw [e 49 (by omega)]
  · rw [e 50 (by omega)]
  · rw [e 51 (by omega)]
  · rw [e 52 (by omega)]
  · rw [e 53 (by omega)]
  · rw [e 54 (by omega)]
theorem ua_id {α : Type} (A : Nat → α) (i : Nat) : ua A i (A i) = A := by
  funext j
  by_cases c : j = i
  · rw [c, ua_s]
  · rw [ua_n c]
theorem a_drain (v1 v2 : Int32) (h : RR σ) : agF (cod1 xI) (f_X4_drain v1 v2 σ) (f_X5_drain v1 v2) := by
  unfold f_X4_drain f_X5_drain
  rcases cl3 v1 with b | ⟨i, hi, rfl⟩
  · rw [map_no b, thn_e]
    refine agF_e (c := 1) (by decide) (by decide) ?_
    rw [mm_no b, rthn_e, if_pos rfl]
    exact m_no (by decide) h (fun _ => if_neg (by decide))
  · obtain ⟨A, V, H, D, P, ha, hc, hm⟩ := h
    have hl := (hm.1 i hi).2.1
    rw [map_at hi, thn_r, chk_true (tb3 hi)]
    have hc2 : CR σ (ua A i (A i)) V H D P := by rw [ua_id]; exact hc
    have := c_drain9 (A := A) (V := V) (H := H) hi v2 (A i).length (A i) [] D P σ FU rfl (by simp only [List.length_nil]; omega) (by unfold FU; omega) hc2 (fun j hj => absurd hj (Nat.not_lt_zero _))
    obtain ⟨⟨r, σ1⟩, e, e1, e2, e3, e4⟩ := this
    have e1 : r = _ := e1
    have e0 : b_X4_drain_9 FU v2 (6 + 3 * i) 0 σ = some (r, σ1) := e
    rw [e0, e1]
    refine agF_r ?_
    have m1 : MR σ1 A V H D P := hm.hi e4
    have m2 := (m1.scr (rf_R 0 σ1)).d0
    rw [mm_at hi, rthn_e, if_neg (by decide), m_ref0, wthn_e, if_pos rfl]
    refine ok_stl (fun σ2 q2 => ?_)
    rw [← q2] at m2
    have m2' : MR σ2 (ua A i (A i)) V H [] P := by rw [ua_id]; exact m2
    have h20 : σ2 44 20 = 0 := by rw [q2, up_s, upd_n (by omega)]; exact rf_20 0 σ1
    refine ok_mono (m_drain26 (A := A) (V := V) (H := H) hi v2 (A i).length (A i) [] P σ2 FU rfl (by simp only [List.length_nil]; omega) (by unfold FU; omega) m2' h20) (fun q hq => ⟨hq.2.2.1, hq.1, ?_⟩)
    refine ⟨_, V, H, _, _, ⟨(ha.tab srt_nil).1, ha.2.1, e3⟩, CR.low e2 (fun k hk => ?_), hq.2.1⟩
    rw [hq.2.2.2 k hk, q2, up_n (by omega)]
    exact rf_k 0 σ1 (by omega)
