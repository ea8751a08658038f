/-! a step is put down -/
variable {σ σ' : sM} {A : Nat → LM} {V : Nat → Option VW} {H : Nat → LH} {D : List Int32} {P : Option Int32}
abbrev kind5 (w : Int32) : Prop := w = 112 ∨ w = 114 ∨ w = 115 ∨ w = 97 ∨ w = 120
theorem step_kind (w v1 k n : Int32) (σ : sM) : f_X4_isStepKind w σ = some (if kind5 w then 1 else 0) ∧ f_X5_step v1 w k n σ = b_X5_step_35 v1 w k n (if kind5 w then 1 else 0) σ := by
  unfold f_X4_isStepKind f_X5_step
  by_cases c1 : w = 112
  · rw [if_pos c1, if_pos c1, if_pos (Or.inl c1)]; exact ⟨rfl, rfl⟩
  · rw [if_neg c1, if_neg c1]
    by_cases c2 : w = 114
    · rw [if_pos c2, if_pos c2, if_pos (Or.inr (Or.inl c2))]; exact ⟨rfl, rfl⟩
    · rw [if_neg c2, if_neg c2]
      by_cases c3 : w = 115
      · rw [if_pos c3, if_pos c3, if_pos (Or.inr (Or.inr (Or.inl c3)))]; exact ⟨rfl, rfl⟩
      · rw [if_neg c3, if_neg c3]
        by_cases c4 : w = 97
        · rw [if_pos c4, if_pos c4, if_pos (Or.inr (Or.inr (Or.inr (Or.inl c4))))]; exact ⟨rfl, rfl⟩
        · rw [if_neg c4, if_neg c4]
          by_cases c5 : w = 120
          · rw [if_pos c5, if_pos c5, if_pos (Or.inr (Or.inr (Or.inr (Or.inr c5))))]; exact ⟨rfl, rfl⟩
          · rw [if_neg c5, if_neg c5, if_neg (fun q => q.elim c1 (fun q => q.elim c2 (fun q => q.elim c3 (fun q => q.elim c4 c5))))]; exact ⟨rfl, rfl⟩
theorem a_step (v1 y k n : Int32) (h : RR σ) : agF (cod3 xI xA xS) (f_X4_step v1 y k n σ) (f_X5_step v1 y k n) := by
  have eg : f_X5_step v1 y k n = b_X5_step_35 v1 y k n (if kind5 y then 1 else 0) := funext (fun s => (step_kind y v1 k n s).2)
  rw [eg]
  unfold f_X4_step b_X5_step_35 b_X5_step_74
  rcases cl3 v1 with b | ⟨u, hu, rfl⟩
  · rw [his_no b, thn_e]
    refine agF_e (c := 1) (by decide) (by decide) ?_
    rw [mh_no b, rthn_e, if_pos rfl]
    exact m_no (by decide) h (fun _ => if_neg (by decide))
  · have h' := h
    obtain ⟨A, V, H, D, P, ha, hc, hm⟩ := h'
    have hB := hc.2.2.1 u hu
    have hM := hm.2.2.1 u hu
    have hl := hB.2.1
    have hin : inb (nI u) 3 = true := inb_nI hu (by omega)
    have hci : (nI u).toNatClampNeg = u := nI_clamp (by omega)
    rw [his_at hu, thn_r, chk_true (hb3 hu), (step_kind y 0 k n σ).1, rthn_e]
    by_cases ck : kind5 y
    · rw [if_pos ck, if_neg (by decide), hB.1]
      by_cases cl : (H u).length < 30
      · have cl' : nI (H u).length < (30 : Int32) := nI_lt (b := 30) cl (by omega)
        rw [if_pos cl']
        refine ok_w (c_add hB cl y k n) (fun _ σ1 q1 => agF_r ?_)
        dsimp only at q1
        have c1 := hc.his hu q1.1 q1.2
        have m1 : MR σ1 A V H D P := hm.hi (q1.2.hi hu)
        have m2 := m1.scr (rf_R 0 σ1)
        rw [mh_at hu, rthn_e, if_neg (by decide), if_neg (by decide)]
        refine ok_chk hin (ok_in ?_ ?_)
        · rw [hci, (m1.2.2.1 u hu).1]
          intro q
          have := (nI_eq (b := 30) (by omega) (by omega)).mp q
          omega
        · rw [m_ref0, wthn_e, if_pos rfl]
          refine ok_w (m_adds (m2.2.2.1 u hu) hu cl y k n) (fun _ σ3 q3 => ok_chk hin (ok_ret ⟨?_, ?_, ?_⟩)) <;> dsimp only at q3
          · show σ3 44 20 = 0
            rw [q3.2.h20]; exact rf_20 0 σ1
          · show σ3 58 (nI u).toNatClampNeg = _
            rw [hci, q3.1.1, q1.1.1]
          · exact ⟨A, V, _, D, P, ha, (c1.low (rf_R 0 σ1).low).low q3.2.low, m2.his q3.1 q3.2⟩
      · have e30 : (H u).length = 30 := by omega
        have cl' : ¬ nI (H u).length < (30 : Int32) := nI_nlt (b := 30) (by omega) (by omega)
        rw [if_neg cl']
        refine agF_e (c := 3) (by decide) (by decide) ?_
        rw [mh_at hu, rthn_e, if_neg (by decide), if_neg (by decide)]
        refine ok_chk hin (ok_ip (by rw [hci, hM.1, e30]; rfl) ?_)
        exact m_no (by decide) h (fun _ => if_neg (by decide))
    · rw [if_neg ck, if_pos rfl]
      refine agF_e (c := 2) (by decide) (by decide) ?_
      rw [mh_at hu, rthn_e, if_neg (by decide), if_pos rfl]
      exact m_no (by decide) h (fun _ => if_neg (by decide))
