/-! the faces over histories, second -/
variable {σ σ' : sM} {A : Nat → LM} {V : Nat → Option VW} {H : Nat → LH} {D : List Int32} {P : Option Int32}
theorem a_meet (v1 v2 : Int32) (h : RR σ) : agF (cod1 xI) (f_X4_meet v1 v2 σ) (f_X5_meet v1 v2) := by
  unfold f_X4_meet f_X5_meet b_X5_meet_20
  rcases cl3 v1 with b | ⟨u, hu, rfl⟩
  · rw [his_no b, thn_e]
    refine agF_e (c := 1) (by decide) (by decide) ?_
    rw [mh_no b, rthn_e, if_pos rfl]
    exact m_no (by decide) h (fun _ => if_neg (by decide))
  · rcases cl3 v2 with b | ⟨w, hw, rfl⟩
    · rw [his_at hu, thn_r, chk_true (hb3 hu), his_no b, thn_e]
      refine agF_e (c := 1) (by decide) (by decide) ?_
      rw [mh_at hu, rthn_e, if_neg (by decide), mh_no b, rthn_e, if_pos rfl]
      exact m_no (by decide) h (fun _ => if_neg (by decide))
    · obtain ⟨A, V, H, D, P, ha, hc, hm⟩ := h
      rw [his_at hu, thn_r, chk_true (hb3 hu), his_at hw, thn_r, chk_true (hb3 hw)]
      refine ok_w (c_common (hc.2.2.1 u hu) (isH_m (h3 hu)) (hc.2.2.1 w hw) (isH_m (h3 hw))) (fun x σ1 q1 => agF_r ?_)
      dsimp only at q1
      have fB : frB σ σ1 := q1.2.B (by omega)
      have c1 := hc.B fB
      have m1 : MR σ1 A V H D P := hm.hi fB.hi
      rw [mh_at hu, rthn_e, if_neg (by decide), mh_at hw, rthn_e, if_neg (by decide), m_ref0, wthn_e, if_pos rfl]
      refine ok_stl (fun σ2 e2 => ?_)
      have n2 : SB σ2 [] ∧ frS (rf 0 σ1) σ2 := by rw [e2]; exact sb_nil
      have m2 := (m1.scr (rf_R 0 σ1)).scr n2.2.R
      have c2 := (c1.low (rf_R 0 σ1).low).low n2.2.R.low
      have lu := (m2.2.2.1 u hu).2.1
      refine ok_w (m_gathers (m2.2.2.1 u hu) hu (Or.inl ⟨by decide, rfl⟩) n2.1 srt_nil z_nil (by simp only [List.length_nil]; omega)) (fun _ σ3 q3 => ?_)
      dsimp only at q3
      have m3 := m2.scr q3.2.R
      have c3 := c2.low q3.2.R.low
      have eg : gth [] [] (H u) = adk [] (H u) := by
        have := gth_flt (T := []) srt_nil z_nil (H u)
        exact this.trans (flt_nil _)
      have q3a := q3.1
      rw [eg] at q3a
      rw [m_meet44 (m3.2.2.1 w hw) hw q3a]
      refine ok_ret ⟨?_, ?_, ⟨A, V, H, D, P, ha, c3, m3⟩⟩
      · show σ3 44 20 = 0
        rw [q3.2.2 20 (by omega), n2.2.2 20 (by omega)]
        exact rf_20 0 σ1
      · rw [q1.1]; rfl
theorem a_opposite (v1 v2 v3 : Int32) (h : RR σ) : agF (cod1 xI) (f_X4_opposite v1 v2 v3 σ) (f_X5_opposite v1 v2 v3) := by
  unfold f_X4_opposite f_X5_opposite b_X5_opposite_27
  rcases cl3 v1 with b | ⟨u, hu, rfl⟩
  · rw [his_no b, thn_e]
    refine agF_e (c := 1) (by decide) (by decide) ?_
    rw [mh_no b, rthn_e, if_pos rfl]
    exact m_no (by decide) h (fun _ => if_neg (by decide))
  · rcases cl3 v2 with b | ⟨i, hi, rfl⟩
    · rw [his_at hu, thn_r, chk_true (hb3 hu), map_no b, thn_e]
      refine agF_e (c := 1) (by decide) (by decide) ?_
      rw [mh_at hu, rthn_e, if_neg (by decide), mm_no b, rthn_e, if_pos rfl]
      exact m_no (by decide) h (fun _ => if_neg (by decide))
    · rcases cl3 v3 with b | ⟨w, hw, rfl⟩
      · rw [his_at hu, thn_r, chk_true (hb3 hu), map_at hi, thn_r, chk_true (tb3 hi), his_no b, thn_e]
        refine agF_e (c := 1) (by decide) (by decide) ?_
        rw [mh_at hu, rthn_e, if_neg (by decide), mm_at hi, rthn_e, if_neg (by decide), mh_no b, rthn_e, if_pos rfl]
        exact m_no (by decide) h (fun _ => if_neg (by decide))
      · obtain ⟨A, V, H, D, P, ha, hc, hm⟩ := h
        have hs := ha.1 i hi
        have lK := adk_len srt_nil (H u)
        simp only [List.length_nil] at lK
        have hwin : inb (nI w) 3 = true := inb_nI hw (by omega)
        have hcw : (nI w).toNatClampNeg = w := nI_clamp (by omega)
        rw [his_at hu, thn_r, chk_true (hb3 hu), map_at hi, thn_r, chk_true (tb3 hi), his_at hw, thn_r, chk_true (hb3 hw)]
        refine ok_w (c_turn (hc.2.2.1 u hu) (isH_m (h3 hu)) (isH_m (h3 hw)) (hc.1 i hi) (isT_m (t3 hi)) (by omega) hs) (fun _ σ1 q1 => agF_r ?_)
        dsimp only at q1
        have e1 : ∀ k, k ≠ 15 → k ≠ 16 → k ≠ 17 → k ≠ 28 + 4 * w → k ≠ 28 + 4 * w + 1 → k ≠ 28 + 4 * w + 2 → k ≠ 28 + 4 * w + 3 → σ1 k = σ k := q1.2
        have c1 : CR σ1 A V (ua H w (opp (A i) (adk [] (H u)))) D P := by
          refine ⟨fun j hj => (hc.1 j hj).same' ?_ ?_ ?_, fun v hv => (hc.2.1 v hv).same ?_, fun x hx => ?_, ?_, ?_⟩
          · exact e1 _ (by omega) (by omega) (by omega) (by omega) (by omega) (by omega) (by omega)
          · exact e1 _ (by omega) (by omega) (by omega) (by omega) (by omega) (by omega) (by omega)
          · exact e1 _ (by omega) (by omega) (by omega) (by omega) (by omega) (by omega) (by omega)
          · exact e1 _ (by omega) (by omega) (by omega) (by omega) (by omega) (by omega) (by omega)
          · by_cases c : x = w
            · rw [c, ua_s]; exact q1.1
            · rw [ua_n c]
              refine (hc.2.2.1 x hx).same ?_ ?_ ?_ ?_ <;> exact e1 _ (by omega) (by omega) (by omega) (by omega) (by omega) (by omega) (by omega)
          · rw [e1 0 (by omega) (by omega) (by omega) (by omega) (by omega) (by omega) (by omega), e1 5 (by omega) (by omega) (by omega) (by omega) (by omega) (by omega) (by omega)]; exact hc.2.2.2.1
          · rw [e1 0 (by omega) (by omega) (by omega) (by omega) (by omega) (by omega) (by omega)]; exact hc.2.2.2.2
        have m1 : MR σ1 A V H D P := hm.hi (fun k hk => e1 k (by omega) (by omega) (by omega) (by omega) (by omega) (by omega) (by omega))
        rw [mh_at hu, rthn_e, if_neg (by decide), mm_at hi, rthn_e, if_neg (by decide), mh_at hw, rthn_e, if_neg (by decide), m_ref0, wthn_e, if_pos rfl]
        refine ok_stl (fun σ2 e2 => ?_)
        have n2 : SB σ2 [] ∧ frS (rf 0 σ1) σ2 := by rw [e2]; exact sb_nil
        have m2 := (m1.scr (rf_R 0 σ1)).scr n2.2.R
        have c2 := (c1.low (rf_R 0 σ1).low).low n2.2.R.low
        have lu := (m2.2.2.1 u hu).2.1
        refine ok_w (m_gathers (m2.2.2.1 u hu) hu (Or.inl ⟨by decide, rfl⟩) n2.1 srt_nil z_nil (by simp only [List.length_nil]; omega)) (fun _ σ3 q3 => ?_)
        dsimp only at q3
        have m3 := m2.scr q3.2.R
        have c3 := c2.low q3.2.R.low
        have eg : gth [] [] (H u) = adk [] (H u) := by
          have := gth_flt (T := []) srt_nil z_nil (H u)
          exact this.trans (flt_nil _)
        have q3a := q3.1
        rw [eg] at q3a
        refine ok_chk hwin (ok_stl (fun σ4 e4 => ?_))
        rw [hcw] at e4
        have f4 : frA σ3 σ4 w := ⟨fun k a b c d => by rw [e4, up_n d], fun j _ => by rw [e4, up_n (by omega), up_n (by omega), up_n (by omega)]; exact ⟨rfl, rfl, rfl⟩, fun x hx => by rw [e4, up_s, upd_n hx]⟩
        have hm4 : HM σ4 w [] := ⟨by rw [e4, up_s, upd_s]; rfl, by simp, fun j hj => absurd hj (Nat.not_lt_zero _)⟩
        refine ok_mono (m_opp56 hm4 hw ((m3.1 i hi).frA f4) hi hs (q3a.frA f4) (by omega)) (fun q hq => ⟨?_, ?_, ?_⟩)
        · rw [hq.2.2.h20, f4.h20, q3.2.2 20 (by omega), n2.2.2 20 (by omega)]
          exact rf_20 0 σ1
        · rw [hq.1, q1.1.1, opp_len]
        · exact ⟨A, V, _, D, P, ha, (c3.low f4.low).low hq.2.2.low, m3.his hq.2.1 (f4.tr hq.2.2)⟩
