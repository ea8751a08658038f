/-! the faces over histories, third -/
variable {σ σ' : sM} {A : Nat → LM} {V : Nat → Option VW} {H : Nat → LH} {D : List Int32} {P : Option Int32}
theorem a_playBoth (v1 v2 x v4 : Int32) (h : RR σ) : agF (cod2 xI xS) (f_X4_playBoth v1 v2 x v4 σ) (f_X5_playBoth v1 v2 x v4) := by
  unfold f_X4_playBoth f_X5_playBoth
  rcases cl3 v1 with b | ⟨u, hu, rfl⟩
  · rw [his_no b, thn_e]
    refine agF_e (c := 1) (by decide) (by decide) ?_
    rw [mh_no b, rthn_e, if_pos rfl]
    exact m_no (by decide) h (fun _ => if_neg (by decide))
  · rcases cl3 v2 with b | ⟨w, hw, rfl⟩
    · rw [his_at hu, thn_r, chk_true (hb3 hu), his_no b, thn_e]
      refine agF_e (c := 1) (by decide) (by decide) ?_
      rw [mh_at hu, rthn_e, if_neg (by decide), mh_no b, rthn_e, if_pos rfl]
      exact m_no (by decide) h (fun _ => if_neg (by decide))
    · rcases cl3 v4 with b | ⟨i, hi, rfl⟩
      · rw [his_at hu, thn_r, chk_true (hb3 hu), his_at hw, thn_r, chk_true (hb3 hw), map_no b, thn_e]
        refine agF_e (c := 1) (by decide) (by decide) ?_
        rw [mh_at hu, rthn_e, if_neg (by decide), mh_at hw, rthn_e, if_neg (by decide), mm_no b, rthn_e, if_pos rfl]
        exact m_no (by decide) h (fun _ => if_neg (by decide))
      · obtain ⟨A, V, H, D, P, ha, hc, hm⟩ := h
        have hs := ha.1 i hi
        have hl := (hm.1 i hi).2.1
        rw [his_at hu, thn_r, chk_true (hb3 hu), his_at hw, thn_r, chk_true (hb3 hw), map_at hi, thn_r, chk_true (tb3 hi)]
        refine ok_w (c_hasRoom (hc.1 i hi) (isT_m (t3 hi)) (by omega) hs (hc.2.2.1 u hu) (isH_m (h3 hu)) (hc.2.2.1 w hw) (isH_m (h3 hw))) (fun y σ1 q1 => ?_)
        dsimp only at q1
        have fB : frB σ σ1 := q1.2.B (by omega)
        have c1 := hc.B fB
        have m1 : MR σ1 A V H D P := hm.hi fB.hi
        rw [q1.1]
        by_cases c : (A i).length + (flt (adk (adk [] (H u)) (H w)) (A i)).length ≤ 60
        · have hr : room 60 (A i) (mrg x ((H u).length + (H w).length) 0 (H u) (H w)) := by
            rw [← adk_app] at c
            exact room_of hs (H u ++ H w) c _ (fun s hs2 => mrg_mem _ _ _ _ hs2)
          rw [if_pos c, if_neg (by decide)]
          refine ok_w (c_turns x (c1.2.2.1 u hu) (isH_m (h3 hu)) (c1.2.2.1 w hw) (isH_m (h3 hw)) (c1.1 i hi) (isT_m (t3 hi)) hs hl) (fun _ σ2 q2 => agF_r ?_)
          dsimp only at q2
          have c2 := c1.tab hi q2.1 q2.2
          have m2 : MR σ2 A V H D P := m1.hi (q2.2.hi hi)
          rw [mh_at hu, rthn_e, if_neg (by decide), mh_at hw, rthn_e, if_neg (by decide), mm_at hi, rthn_e, if_neg (by decide)]
          refine ok_w (m_tooMuch (m2.2.2.1 u hu) hu (m2.2.2.1 w hw) hw (m2.1 i hi) hi hs) (fun z σ3 q3 => ?_)
          dsimp only at q3
          rw [q3.1, if_pos c, if_pos rfl, m_ref0, wthn_e, if_pos rfl]
          have m4 := (m2.scr q3.2.R).scr (rf_R 0 σ3)
          have c4 := (c2.low q3.2.R.low).low (rf_R 0 σ3).low
          refine ok_mono (m_turns x (m4.2.2.1 u hu) hu (m4.2.2.1 w hw) hw (m4.1 i hi) hi hs hr) (fun q hq => ⟨?_, ?_, ?_⟩)
          · rw [hq.2.2.h20]; exact rf_20 0 σ3
          · rw [hq.1, q2.1.1]
          · exact ⟨_, V, H, D, P, ha.tab (ply_srt hs _), c4.low hq.2.2.low, m4.tab hq.2.1 hq.2.2⟩
        · rw [if_neg c, if_pos rfl]
          refine agF_e (c := 2) (by decide) (by decide) ?_
          rw [mh_at hu, rthn_e, if_neg (by decide), mh_at hw, rthn_e, if_neg (by decide), mm_at hi, rthn_e, if_neg (by decide)]
          refine ok_w (m_tooMuch (m1.2.2.1 u hu) hu (m1.2.2.1 w hw) hw (m1.1 i hi) hi hs) (fun z σ3 q3 => ?_)
          dsimp only at q3
          rw [q3.1, if_neg c, if_neg (by decide)]
          have r3 : RR σ3 := ⟨A, V, H, D, P, ha, c1.low q3.2.R.low, m1.scr q3.2.R⟩
          exact m_no (by decide) r3 (fun _ => if_neg (by decide))
