/-! polling, draining -/
variable {σ σ' : sM} {A : Nat → LM} {V : Nat → Option VW} {H : Nat → LH} {D : List Int32} {P : Option Int32}
/-- the list without its place p -/
def er (L : LM) (p : Nat) : LM := L.take p ++ L.drop (p + 1)
theorem er_srt {L : LM} (hs : Srt L) (p : Nat) : Srt (er L p) := by
  unfold er
  rw [← erase_td]
  exact List.Pairwise.sublist (List.eraseIdx_sublist L p) hs
theorem er_ln {L : LM} {p : Nat} (hp : p < L.length) : (er L p).length = L.length - 1 := er_len L hp
def frP (σ σ' : sM) (t : Nat) : Prop := (∀ k, k ≠ 0 → k ≠ t → k ≠ t + 1 → k ≠ t + 2 → σ' k = σ k) ∧ ∀ g, g ≠ 6 → g ≠ 7 → σ' 0 g = σ 0 g
theorem c_pollAt {t : Nat} {L : LM} (hT : TB σ t L) (ht : t = 6 ∨ t = 9 ∨ t = 12) {p : Nat} (hp : p < L.length) : ok (f_X4_pollAt t (nI p) σ) (fun q => q.1 = kA L p ∧ TB q.2 t (er L p) ∧ frP σ q.2 t ∧ q.2 0 6 = 1 ∧ q.2 0 7 = vA L p) := by
  have hl := hT.2.1
  have hin : inb (nI p) 120 = true := inb_nI (by omega) (by omega)
  unfold f_X4_pollAt
  rw [nI_clamp (by omega), (hT.2.2 p hp).1, (hT.2.2 p hp).2]
  refine ok_chk hin (ok_chk hin (ok_stl (fun σ1 e1 => ok_stl (fun σ2 e2 => ?_))))
  have n2 : ∀ k, k ≠ 0 → σ2 k = σ k := fun k hk => by rw [e2, up_n hk, e1, up_n hk]
  have hT2 : TB σ2 t L := hT.same' (n2 _ (by omega)) (n2 _ (by omega)) (n2 _ (by omega))
  have g0 : σ2 0 = upd (upd (σ 0) 7 (vA L p)) 6 1 := by rw [e2, up_s, e1, up_s]
  rw [nI_1]
  refine ok_w (tb_dropPlaces hT2 (b := p) (e := p + 1) (by omega) (by omega)) (fun _ σ3 q3 => ok_ret ⟨rfl, q3.1, ⟨fun k a b c d => ?_, fun g a b => ?_⟩, ?_, ?_⟩) <;> dsimp only at q3
  · show σ3 k = σ k
    rw [q3.2 k b c d, n2 k a]
  · show σ3 0 g = σ 0 g
    rw [q3.2 0 (by omega) (by omega) (by omega), g0, upd_n a, upd_n b]
  · show σ3 0 6 = 1
    rw [q3.2 0 (by omega) (by omega) (by omega), g0, upd_s]
  · show σ3 0 7 = _
    rw [q3.2 0 (by omega) (by omega) (by omega), g0, upd_n (by omega), upd_s]
def frQ (σ σ' : sM) (i : Nat) : Prop := (∀ k, k ≠ 44 → k ≠ 45 → k ≠ 46 → k ≠ 47 → σ' k = σ k) ∧ (∀ j, j < 60 * i ∨ 60 * i + 60 ≤ j → σ' 45 j = σ 45 j ∧ σ' 46 j = σ 46 j) ∧ (∀ j, j ≠ i → σ' 47 j = σ 47 j) ∧ ∀ g, g ≠ 18 → g ≠ 19 → σ' 44 g = σ 44 g
theorem m_pollsAt {i : Nat} {L : LM} (hM : MB σ i L) (hi : i < 3) {p : Nat} (hp : p < L.length) : ok (f_X5_pollsAt (nI i) (nI p) σ) (fun q => q.1 = kA L p ∧ MB q.2 i (er L p) ∧ frQ σ q.2 i ∧ q.2 44 18 = 1 ∧ q.2 44 19 = vA L p) := by
  have hl := hM.2.1
  have hin : inb (nI (60 * i + p)) 180 = true := inb_nI (by omega) (by omega)
  unfold f_X5_pollsAt
  rw [ix, nI_clamp (by omega), (hM.2.2 p hp).1]
  refine ok_chk hin (ok_stl (fun σ1 e1 => ok_chk hin (ok_stl (fun σ2 e2 => ?_))))
  have e6 : σ1 46 (60 * i + p) = vA L p := by rw [e1, up_n (by omega), (hM.2.2 p hp).2]
  rw [e6] at e2
  have n2 : ∀ k, k ≠ 44 → σ2 k = σ k := fun k hk => by rw [e2, up_n hk, e1, up_n hk]
  have hM2 : MB σ2 i L := hM.same (n2 _ (by omega)) (n2 _ (by omega)) (n2 _ (by omega))
  have g0 : σ2 44 = upd (upd (σ 44) 18 1) 19 (vA L p) := by rw [e2, up_s, e1, up_s]
  refine ok_w (m_takes hM2 hi hp) (fun _ σ3 q3 => ok_ret ⟨rfl, q3.1, ⟨fun k a b c d => ?_, fun j hj => ?_, fun j hj => ?_, fun g a b => ?_⟩, ?_, ?_⟩) <;> dsimp only at q3
  · show σ3 k = σ k
    rw [q3.2.1 k b c d, n2 k a]
  · show σ3 45 j = σ 45 j ∧ σ3 46 j = σ 46 j
    rw [(q3.2.2.1 j hj).1, (q3.2.2.1 j hj).2, n2 45 (by omega), n2 46 (by omega)]
    exact ⟨rfl, rfl⟩
  · show σ3 47 j = σ 47 j
    rw [q3.2.2.2 j hj, n2 47 (by omega)]
  · show σ3 44 g = σ 44 g
    rw [q3.2.1 44 (by omega) (by omega) (by omega), g0, upd_n b, upd_n a]
  · show σ3 44 18 = 1
    rw [q3.2.1 44 (by omega) (by omega) (by omega), g0, upd_n (by omega), upd_s]
  · show σ3 44 19 = _
    rw [q3.2.1 44 (by omega) (by omega) (by omega), g0, upd_s]
theorem CR.poll {i : Nat} {L : LM} {x : Int32} (h : CR σ A V H D P) (hi : i < 3) (hT : TB σ' (6 + 3 * i) L) (hf : frP σ σ' (6 + 3 * i)) (h6 : σ' 0 6 = 1) (h7 : σ' 0 7 = x) : CR σ' (ua A i L) V H D (some x) := by
  have e : ∀ k, k ≠ 0 → k ≠ 6 + 3 * i → k ≠ 6 + 3 * i + 1 → k ≠ 6 + 3 * i + 2 → σ' k = σ k := hf.1
  refine ⟨fun j hj => ?_, fun v hv => (h.2.1 v hv).same (e _ (by omega) (by omega) (by omega) (by omega)), fun u hu => (h.2.2.1 u hu).same (e _ (by omega) (by omega) (by omega) (by omega)) (e _ (by omega) (by omega) (by omega) (by omega)) (e _ (by omega) (by omega) (by omega) (by omega)) (e _ (by omega) (by omega) (by omega) (by omega)), ?_, ⟨h6, h7⟩⟩
  · by_cases q : j = i
    · rw [q, ua_s]; exact hT
    · rw [ua_n q]; exact (h.1 j hj).same' (e _ (by omega) (by omega) (by omega) (by omega)) (e _ (by omega) (by omega) (by omega) (by omega)) (e _ (by omega) (by omega) (by omega) (by omega))
  · rw [hf.2 5 (by omega) (by omega), e 5 (by omega) (by omega) (by omega) (by omega)]; exact h.2.2.2.1
theorem MR.poll {i : Nat} {L : LM} {x : Int32} (h : MR σ A V H D P) (hM : MB σ' i L) (hf : frQ σ σ' i) (h6 : σ' 44 18 = 1) (h7 : σ' 44 19 = x) : MR σ' (ua A i L) V H D (some x) := by
  have e : ∀ k, 48 ≤ k → σ' k = σ k := fun k hk => hf.1 k (by omega) (by omega) (by omega) (by omega)
  refine ⟨fun j hj => ?_, fun v hv => (h.2.1 v hv).same ?_ ?_ ?_ ?_ ?_ ?_ ?_, fun u hu => (h.2.2.1 u hu).same (e _ (by omega)) (e _ (by omega)) (e _ (by omega)) (e _ (by omega)), ?_, ⟨h6, h7⟩⟩
  · by_cases q : j = i
    · rw [q, ua_s]; exact hM
    · rw [ua_n q]
      have hj2 := h.1 j hj
      have hl := hj2.2.1
      exact ⟨by rw [hf.2.2.1 j q]; exact hj2.1, hj2.2.1, fun z hz => by
        obtain ⟨a, b⟩ := hf.2.1 (60 * j + z) (by omega)
        rw [a, b]; exact hj2.2.2 z hz⟩
  · rw [e 48 (by omega)]
  · rw [e 49 (by omega)]
  · rw [e 50 (by omega)]
  · rw [e 51 (by omega)]
  · rw [e 52 (by omega)]
  · rw [e 53 (by omega)]
  · rw [e 54 (by omega)]
  · rw [hf.2.2.2 17 (by omega) (by omega), e 60 (by omega)]; exact h.2.2.2.1
theorem frP.hi {i : Nat} (hf : frP σ σ' (6 + 3 * i)) (hi : i < 3) : ∀ k, 44 ≤ k → σ' k = σ k := fun k hk => hf.1 k (by omega) (by omega) (by omega) (by omega)
theorem frQ.low {i : Nat} (hf : frQ σ σ' i) : ∀ k, k < 44 → σ' k = σ k := fun k hk => hf.1 k (by omega) (by omega) (by omega) (by omega)
/-- both sides poll the place p of the map i -/
theorem j_poll {i : Nat} (hi : i < 3) {L : LM} {p : Nat} (hp : p < L.length) {A V H D P} (ha : AO A V D) (hs : Srt L) (hc : CR σ A V H D P) (hT : TB σ (6 + 3 * i) L) : ok (f_X4_pollAt (6 + 3 * i) (nI p) σ) (fun q => q.1 = kA L p ∧ CR q.2 (ua A i (er L p)) V H D (some (vA L p)) ∧ TB q.2 (6 + 3 * i) (er L p) ∧ (∀ k, 44 ≤ k → q.2 k = σ k) ∧ ∀ g, g ≠ 6 → g ≠ 7 → q.2 0 g = σ 0 g) :=
  ok_mono (c_pollAt hT (t3 hi) hp) (fun q hq => ⟨hq.1, hc.poll hi hq.2.1 hq.2.2.1 hq.2.2.2.1 hq.2.2.2.2, hq.2.1, hq.2.2.1.hi hi, hq.2.2.1.2⟩)
theorem m_pollR {i : Nat} (hi : i < 3) {p : Nat} {A V H D P} {B : Nat → LM} {x : Int32} (hp : p < (A i).length) (ha : AO B V D) (eB : B = ua A i (er (A i) p)) (ex : x = vA (A i) p) (hc : CR σ B V H D (some x)) (hm : MR σ A V H D P) (h20 : σ 44 20 = 0) : ok (f_X5_pollsAt (nI i) (nI p) σ) (fun q => q.2 44 20 = 0 ∧ q.1 = kA (A i) p ∧ RR q.2) := by
  refine ok_mono (m_pollsAt (hm.1 i hi) hi hp) (fun q hq => ⟨?_, hq.1, ?_⟩)
  · rw [hq.2.2.1.2.2.2 20 (by omega) (by omega)]; exact h20
  · refine ⟨B, V, H, D, some x, ha, hc.low hq.2.2.1.low, ?_⟩
    rw [eB, ex]
    exact hm.poll hq.2.1 hq.2.2.1 hq.2.2.2.1 hq.2.2.2.2
theorem a_poll (v1 v2 : Int32) (h : RR σ) : agF (cod2 xI xN) (f_X4_poll v1 v2 σ) (f_X5_poll v1 v2) := by
  unfold f_X4_poll f_X5_poll f_X4_endPlace
  rcases cl3 v1 with b | ⟨i, hi, rfl⟩
  · unfold b_X5_poll_26
    rw [map_no b, thn_e]
    refine agF_e (c := 1) (by decide) (by decide) ?_
    rw [mm_no b, rthn_e, if_pos rfl]
    exact m_no (by decide) h (fun _ => if_neg (by decide))
  · have h' := h
    obtain ⟨A, V, H, D, P, ha, hc, hm⟩ := h'
    have hT := hc.1 i hi
    have hM := hm.1 i hi
    have hs := ha.1 i hi
    have hl := hM.2.1
    have hin : inb (nI i) 3 = true := inb_nI hi (by omega)
    have hci : (nI i).toNatClampNeg = i := nI_clamp (by omega)
    rw [map_at hi, thn_r, chk_true (tb3 hi), hT.1]
    by_cases c0 : (A i).length = 0
    · have n0 : ¬ (0 : Int32) < nI (A i).length := by rw [c0]; decide
      unfold b_X5_poll_26
      rw [if_neg n0, thn_e]
      refine agF_e (c := 2) (by decide) (by decide) ?_
      rw [mm_at hi, rthn_e, if_neg (by decide)]
      refine ok_chk hin (ok_ip (by rw [hci, hM.1, c0]; rfl) (m_no (by decide) h (fun _ => if_neg (by decide))))
    · have n0 : (0 : Int32) < nI (A i).length := nI_lt (a := 0) (by omega) (by omega)
      have e1 : nI (A i).length - (1 : Int32) = nI ((A i).length - 1) := by rw [one_nI, pk_sub (by omega)]
      have pre : ∀ (p : Nat) (σ1 : sM) (r : Int32), p < (A i).length → (if v2 = 0 then p = 0 else p = (A i).length - 1) → r = kA (A i) p → CR σ1 (ua A i (er (A i) p)) V H D (some (vA (A i) p)) → MR σ1 A V H D P → ok (rthn (f_X5_isMap (nI i) σ1) (fun vr1 => if vr1 = 0 then b_X5_poll_26 (nI i) v2 1 σ1 else chk (inb (nI i) 3) (if (σ1 47 (nI i).toNatClampNeg) = 0 then b_X5_poll_26 (nI i) v2 2 σ1 else b_X5_poll_26 (nI i) v2 0 σ1))) (fun p => p.2 44 20 = 0 ∧ p.1 = r ∧ RR p.2) := by
        intro p σ1 r hp hv hr c1 m1
        have m2 := m1.scr (rf_R 0 σ1)
        have c2 := c1.low (rf_R 0 σ1).low
        have fin := m_pollR hi hp (ha.tab (er_srt hs p)) rfl rfl c2 m2 (rf_20 0 σ1)
        unfold b_X5_poll_26
        rw [mm_at hi, rthn_e, if_neg (by decide)]
        refine ok_chk hin (ok_in (by rw [hci, (m1.1 i hi).1]; exact fun q => c0 ((nI_eq (b := 0) (by omega) (by omega)).mp q)) ?_)
        rw [m_ref0, wthn_e, if_pos rfl, hr]
        refine ok_if (fun c => ?_) (fun c => ?_)
        · rw [if_pos c] at hv
          rw [hv] at fin ⊢
          exact ok_w fin (fun r σ3 q3 => ok_ret q3)
        · rw [if_neg c] at hv
          refine ok_chk hin ?_
          rw [hci, (m2.1 i hi).1, e1, ← hv]
          exact ok_w fin (fun r σ3 q3 => ok_ret q3)
      rw [if_pos n0]
      by_cases c : v2 = 0
      · rw [if_pos c, thn_r]
        refine ok_w (j_poll (p := 0) hi (by omega) ha hs hc hT) (fun x σ1 q1 => agF_r ?_)
        dsimp only at q1
        exact pre 0 σ1 x (by omega) (by rw [if_pos c]) q1.1 q1.2.1 (hm.hi q1.2.2.2.1)
      · rw [if_neg c, thn_r, e1]
        refine ok_w (j_poll (p := (A i).length - 1) hi (by omega) ha hs hc hT) (fun x σ1 q1 => agF_r ?_)
        dsimp only at q1
        exact pre _ σ1 x (by omega) (by rw [if_neg c]) q1.1 q1.2.1 (hm.hi q1.2.2.2.1)
