/-! the faces over histories -/
variable {σ σ' : sM} {A : Nat → LM} {V : Nat → Option VW} {H : Nat → LH} {D : List Int32} {P : Option Int32}
theorem CR.his {u : Nat} {L : LH} (h : CR σ A V H D P) (hu : u < 3) (hB : HB σ' (28 + 4 * u) L) (hf : frH σ σ' (28 + 4 * u)) : CR σ' A V (ua H u L) D P := by
  refine ⟨fun j hj => (h.1 j hj).frH hf (isT_m (t3 hj)) (isH_m (h3 hu)), fun v hv => (h.2.1 v hv).same (hf _ (by omega) (by omega) (by omega) (by omega)), fun x hx => ?_, ?_, ?_⟩
  · by_cases e : x = u
    · rw [e, ua_s]; exact hB
    · rw [ua_n e]; exact (h.2.2.1 x hx).frH hf (isH_m (h3 hx)) (isH_m (h3 hu)) (by omega)
  · rw [hf 0 (by omega) (by omega) (by omega) (by omega), hf 5 (by omega) (by omega) (by omega) (by omega)]; exact h.2.2.2.1
  · rw [hf 0 (by omega) (by omega) (by omega) (by omega)]; exact h.2.2.2.2
theorem MR.his {u : Nat} {L : LH} (h : MR σ A V H D P) (hM : HM σ' u L) (hf : frA σ σ' u) : MR σ' A V (ua H u L) D P := by
  have e : ∀ k, k ≠ 55 → k ≠ 56 → k ≠ 57 → k ≠ 58 → σ' k = σ k := hf.1
  refine ⟨fun j hj => (h.1 j hj).frA hf, fun v hv => (h.2.1 v hv).same ?_ ?_ ?_ ?_ ?_ ?_ ?_, fun x hx => ?_, ?_, ?_⟩
  · rw [e 48 (by omega) (by omega) (by omega) (by omega)]
  · rw [e 49 (by omega) (by omega) (by omega) (by omega)]
  · rw [e 50 (by omega) (by omega) (by omega) (by omega)]
  · rw [e 51 (by omega) (by omega) (by omega) (by omega)]
  · rw [e 52 (by omega) (by omega) (by omega) (by omega)]
  · rw [e 53 (by omega) (by omega) (by omega) (by omega)]
  · rw [e 54 (by omega) (by omega) (by omega) (by omega)]
  · by_cases q : x = u
    · rw [q, ua_s]; exact hM
    · rw [ua_n q]; exact (h.2.2.1 x hx).frA hf q
  · rw [e 44 (by omega) (by omega) (by omega) (by omega), e 60 (by omega) (by omega) (by omega) (by omega)]; exact h.2.2.2.1
  · rw [e 44 (by omega) (by omega) (by omega) (by omega)]; exact h.2.2.2.2
theorem frH.hi {u : Nat} (hf : frH σ σ' (28 + 4 * u)) (hu : u < 3) : ∀ k, 44 ≤ k → σ' k = σ k := fun k hk => hf k (by omega) (by omega) (by omega) (by omega)
theorem frA.low {u : Nat} (hf : frA σ σ' u) : ∀ k, k < 44 → σ' k = σ k := fun k hk => hf.1 k (by omega) (by omega) (by omega) (by omega)
theorem frA.h20 {u : Nat} (hf : frA σ σ' u) : σ' 44 20 = σ 44 20 := by rw [hf.1 44 (by omega) (by omega) (by omega) (by omega)]
theorem frM.h20 {i : Nat} (hf : frM σ σ' i) : σ' 44 20 = σ 44 20 := by rw [hf.1 44 (by omega) (by omega) (by omega)]
/-- the class's scratch changed alone -/
theorem CR.B (h : CR σ A V H D P) (hf : frB σ σ') : CR σ' A V H D P :=
  ⟨fun i hi => (h.1 i hi).frB hf (t3 hi), fun v hv => (h.2.1 v hv).same (hf _ (by omega)), fun u hu => (h.2.2.1 u hu).frB hf (h3 hu), by rw [hf 0 (by omega), hf 5 (by omega)]; exact h.2.2.2.1, by rw [hf 0 (by omega)]; exact h.2.2.2.2⟩
theorem frB.hi (hf : frB σ σ') : ∀ k, 44 ≤ k → σ' k = σ k := fun k hk => hf k (by omega)
theorem a_forget (v1 : Int32) (h : RR σ) : agF (cod1 xI) (f_X4_forget v1 σ) (f_X5_forget v1) := by
  unfold f_X4_forget f_X5_forget b_X5_forget_13
  rcases cl3 v1 with b | ⟨u, hu, rfl⟩
  · rw [his_no b, thn_e]
    refine agF_e (c := 1) (by decide) (by decide) ?_
    rw [mh_no b, rthn_e, if_pos rfl]
    exact m_no (by decide) h (fun _ => if_neg (by decide))
  · obtain ⟨A, V, H, D, P, ha, hc, hm⟩ := h
    have hin : inb (nI u) 3 = true := inb_nI hu (by omega)
    have hci : (nI u).toNatClampNeg = u := nI_clamp (by omega)
    rw [his_at hu, thn_r, chk_true (hb3 hu)]
    refine ok_stl (fun σ1 e1 => ?_)
    have f1 : frH σ σ1 (28 + 4 * u) := fun k a b c d => by rw [e1, up_n a]
    have hb1 : HB σ1 (28 + 4 * u) [] := ⟨by rw [e1, up_s, upd_s]; rfl, by simp, fun j hj => absurd hj (Nat.not_lt_zero _)⟩
    have c1 := hc.his hu hb1 f1
    have m1 : MR σ1 A V H D P := hm.hi (f1.hi hu)
    have m2 := m1.scr (rf_R 0 σ1)
    rw [(hc.2.2.1 u hu).1]
    refine agF_r ?_
    rw [mh_at hu, rthn_e, if_neg (by decide), m_ref0, wthn_e, if_pos rfl]
    refine ok_chk hin (ok_chk hin (ok_stl (fun σ2 e2 => ok_ret ⟨?_, ?_, ?_⟩)))
    · show σ2 44 20 = 0
      rw [e2, up_n (by omega)]; exact rf_20 0 σ1
    · show rf 0 σ1 58 (nI u).toNatClampNeg = _
      rw [hci]; exact (m2.2.2.1 u hu).1
    · rw [hci] at e2
      have f2 : frA (rf 0 σ1) σ2 u := ⟨fun k a b c d => by rw [e2, up_n d], fun j _ => by rw [e2, up_n (by omega), up_n (by omega), up_n (by omega)]; exact ⟨rfl, rfl, rfl⟩, fun x hx => by rw [e2, up_s, upd_n hx]⟩
      have hm2 : HM σ2 u [] := ⟨by rw [e2, up_s, upd_s]; rfl, by simp, fun j hj => absurd hj (Nat.not_lt_zero _)⟩
      exact ⟨A, V, _, D, P, ha, (c1.low (rf_R 0 σ1).low).low f2.low, m2.his hm2 f2⟩
theorem a_play (v1 v2 : Int32) (h : RR σ) : agF (cod2 xI xS) (f_X4_play v1 v2 σ) (f_X5_play v1 v2) := by
  unfold f_X4_play f_X5_play
  rcases cl3 v1 with b | ⟨u, hu, rfl⟩
  · rw [his_no b, thn_e]
    refine agF_e (c := 1) (by decide) (by decide) ?_
    rw [mh_no b, rthn_e, if_pos rfl]
    exact m_no (by decide) h (fun _ => if_neg (by decide))
  · rcases cl3 v2 with b | ⟨i, hi, rfl⟩
    · rw [his_at hu, thn_r, chk_true (hb3 hu), map_no b, thn_e]
      refine agF_e (c := 1) (by decide) (by decide) ?_
      rw [mh_at hu, rthn_e, if_neg (by decide), mm_no b, rthn_e, if_pos rfl]
      exact m_no (by decide) h (fun _ => if_neg (by decide))
    · have h' := h
      obtain ⟨A, V, H, D, P, ha, hc, hm⟩ := h'
      have hs := ha.1 i hi
      rw [his_at hu, thn_r, chk_true (hb3 hu), map_at hi, thn_r, chk_true (tb3 hi)]
      refine ok_w (c_hasRoom (hc.1 i hi) (isT_m (t3 hi)) (by omega) hs (hc.2.2.1 u hu) (isH_m (h3 hu)) (hc.2.2.1 u hu) (isH_m (h3 hu))) (fun x σ1 q1 => ?_)
      dsimp only at q1
      have fB : frB σ σ1 := q1.2.B (by omega)
      have c1 := hc.B fB
      have m1 : MR σ1 A V H D P := hm.hi fB.hi
      rw [q1.1]
      by_cases c : (A i).length + (flt (adk (adk [] (H u)) (H u)) (A i)).length ≤ 60
      · have hr : room 60 (A i) (H u) := by
          rw [adk_twice] at c
          exact room_of hs (H u) c (H u) (fun s hs => hs)
        rw [if_pos c, if_neg (by decide)]
        refine ok_w (c_playOn (c1.2.2.1 u hu) (isH_m (h3 hu)) (c1.1 i hi) (isT_m (t3 hi)) hs (room_mono (H u) (by omega) hr)) (fun y σ2 q2 => agF_r ?_)
        dsimp only at q2
        have c2 := c1.tab hi q2.2.1 q2.2.2
        have m2 : MR σ2 A V H D P := m1.hi (q2.2.2.hi hi)
        rw [mh_at hu, rthn_e, if_neg (by decide), mm_at hi, rthn_e, if_neg (by decide)]
        refine ok_w (m_tooMuch (m2.2.2.1 u hu) hu (m2.2.2.1 u hu) hu (m2.1 i hi) hi hs) (fun z σ3 q3 => ?_)
        dsimp only at q3
        rw [q3.1, if_pos c, if_pos rfl, m_ref0, wthn_e, if_pos rfl]
        have m4 := (m2.scr q3.2.R).scr (rf_R 0 σ3)
        have c4 := (c2.low q3.2.R.low).low (rf_R 0 σ3).low
        refine ok_mono (m_play47 (m4.2.2.1 u hu) hu (m4.1 i hi) hi hs hr) (fun q hq => ⟨?_, ?_, ?_⟩)
        · rw [hq.2.2.h20]; exact rf_20 0 σ3
        · rw [hq.1, q2.1]
        · exact ⟨_, V, H, D, P, ha.tab (ply_srt hs _), c4.low hq.2.2.low, m4.tab hq.2.1 hq.2.2⟩
      · rw [if_neg c, if_pos rfl]
        refine agF_e (c := 2) (by decide) (by decide) ?_
        rw [mh_at hu, rthn_e, if_neg (by decide), mm_at hi, rthn_e, if_neg (by decide)]
        refine ok_w (m_tooMuch (m1.2.2.1 u hu) hu (m1.2.2.1 u hu) hu (m1.1 i hi) hi hs) (fun z σ3 q3 => ?_)
        dsimp only at q3
        rw [q3.1, if_neg c, if_neg (by decide)]
        have r3 : RR σ3 := ⟨A, V, H, D, P, ha, c1.low q3.2.R.low, m1.scr q3.2.R⟩
        exact m_no (by decide) r3 (fun _ => if_neg (by decide))
