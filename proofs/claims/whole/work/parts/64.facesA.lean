/-! the faces over maps -/
theorem ok_t {α β : Type} {x : Option ((String ⊕ α) × sM)} {k : α → sM → Option ((String ⊕ β) × sM)} {r : α} {P : (String ⊕ α) × sM → Prop} {Q : (String ⊕ β) × sM → Prop} (hx : ok x (fun q => q.1 = .inr r ∧ P q)) (h : ∀ σ1, P (.inr r, σ1) → ok (k r σ1) Q) : ok (thn x k) Q := by
  obtain ⟨⟨a, s1⟩, e, e1, e2⟩ := hx
  have e1 : a = .inr r := e1
  subst e1
  rw [e]
  exact h s1 e2
theorem pw_ok {σ : sM} {t : Nat} {L : LM} (hT : TB σ t L) (hs : Srt L) (hl : L.length ≤ 60) {k v : Int32} (hr : hasP L k ∨ L.length < 60) : ok (f_X4_putWithin t k v σ) (fun q => q.1 = .inr () ∧ TB q.2 t (ins L k v) ∧ frT σ q.2 t) := by
  have hcb := cb_le L k
  unfold f_X4_putWithin
  have put : ok (wthn (f_X2_set t k v σ) (fun _ σ2 => some ((.inr () : String ⊕ Unit), σ2))) (fun q => q.1 = .inr () ∧ TB q.2 t (ins L k v) ∧ frT σ q.2 t) :=
    ok_w (tb_set hT hs k v (Or.inr (by omega))) (fun _ σ2 q2 => ok_ret ⟨rfl, q2.2⟩)
  refine ok_if (fun _ => put) (fun c => ?_)
  have hp : hasP L k := hr.resolve_right (fun z => c (by rw [hT.1]; exact nI_lt (b := 60) z (by omega)))
  refine ok_r (tb_placeOf hT hs k) ?_
  rw [if_pos hp]
  exact ok_ip (nI_ge0 (by omega)) put
theorem pw_no {σ : sM} {t : Nat} {L : LM} (hT : TB σ t L) (hs : Srt L) {k v : Int32} (hn : ¬ hasP L k) (hl : L.length = 60) : f_X4_putWithin t k v σ = some (.inl xS, σ) := by
  have c : ¬ nI L.length < (60 : Int32) := nI_nlt (b := 60) (by omega) (by omega)
  unfold f_X4_putWithin
  rw [hT.1, if_neg c, tb_placeOf hT hs, rthn_e, if_neg hn, if_neg (by decide)]
variable {σ : sM}
theorem a_size (v1 : Int32) (h : RR σ) : agF (cod1 xI) (f_X4_size v1 σ) (f_X5_size v1) := by
  unfold f_X4_size f_X5_size
  rcases cl3 v1 with b | ⟨i, hi, rfl⟩
  · rw [map_no b, thn_e]
    refine agF_e (c := 1) (by decide) (by decide) ?_
    rw [mm_no b, rthn_e, if_pos rfl]
    exact m_no (by decide) h (fun _ => if_neg (by decide))
  · have h' := h
    obtain ⟨A, V, H, D, P, ha, hc, hm⟩ := h'
    rw [map_at hi, thn_r, chk_true (tb3 hi)]
    refine agF_r ?_
    rw [mm_at hi, rthn_e, if_neg (by decide), m_ref0, wthn_e, if_pos rfl]
    refine ok_chk (inb_nI hi (by omega)) (ok_ret ⟨rf_20 0 σ, ?_, h.scr (rf_R 0 σ)⟩)
    show rf 0 σ 47 (nI i).toNatClampNeg = σ (6 + 3 * i) 2
    rw [rf_k 0 σ (by omega), nI_clamp (by omega), (hm.1 i hi).1, (hc.1 i hi).1]
theorem a_put (v1 k v : Int32) (h : RR σ) : agF (cod2 xI xS) (f_X4_put v1 k v σ) (f_X5_put v1 k v) := by
  unfold f_X4_put f_X5_put
  rcases cl3 v1 with b | ⟨i, hi, rfl⟩
  · rw [map_no b, thn_e]
    refine agF_e (c := 1) (by decide) (by decide) ?_
    rw [mm_no b, rthn_e, if_pos rfl]
    exact m_no (by decide) h (fun _ => if_neg (by decide))
  · have h' := h
    obtain ⟨A, V, H, D, P, ha, hc, hm⟩ := h'
    have hT := hc.1 i hi
    have hM := hm.1 i hi
    have hs := ha.1 i hi
    have hl := hM.2.1
    have hin : inb (nI i) 3 = true := inb_nI hi (by omega)
    have hci : (nI i).toNatClampNeg = i := nI_clamp (by omega)
    rw [map_at hi, thn_r, chk_true (tb3 hi)]
    by_cases hr : hasP (A i) k ∨ (A i).length < 60
    · refine ok_t (pw_ok hT hs hl hr) (fun σ1 q1 => agF_r ?_)
      dsimp only at q1
      have c1 := hc.tab hi q1.1 q1.2
      have m1 : MR σ1 A V H D P := hm.hi (q1.2.hi hi)
      have r36 : ok (b_X5_put_36 (nI i) k v σ1) (fun p => p.2 44 20 = 0 ∧ p.1 = σ1 (6 + 3 * i) 2 ∧ RR p.2) := by
        unfold b_X5_put_36
        rw [m_ref0, wthn_e, if_pos rfl]
        have m2 := m1.scr (rf_R 0 σ1)
        refine ok_w (m_puts (m2.1 i hi) hs hi k v hr) (fun _ σ3 q3 => ok_chk hin (ok_ret ⟨?_, ?_, ?_⟩)) <;> dsimp only at q3
        · show σ3 44 20 = 0
          rw [q3.2.1 44 (by omega) (by omega) (by omega)]
          exact rf_20 0 σ1
        · show σ3 47 (nI i).toNatClampNeg = _
          rw [hci, q3.1.1, q1.1.1]
        · exact ⟨_, V, H, D, P, ha.tab (ins_srt hs k v), (c1.low (rf_R 0 σ1).low).low q3.2.low, m2.tab q3.1 q3.2⟩
      rw [mm_at hi, rthn_e]
      refine ok_in (by decide) (ok_chk hin (ok_if (fun c => ?_) (fun _ => r36)))
      have hp : hasP (A i) k := hr.resolve_right (fun z => by
        rw [hci, (m1.1 i hi).1] at c
        have := (nI_eq (b := 60) (by omega) (by omega)).mp c
        omega)
      refine ok_r (m_has (m1.1 i hi) hs hi k) ?_
      rw [if_pos hp]
      exact ok_in (by decide) r36
    · have hn : ¬ hasP (A i) k := fun c => hr (Or.inl c)
      have h60 : (A i).length = 60 := by
        rcases Nat.lt_or_ge (A i).length 60 with q | q
        · exact absurd (Or.inr q) hr
        · omega
      rw [pw_no hT hs hn h60, thn_e]
      refine agF_e (c := 2) (by decide) (by decide) ?_
      rw [mm_at hi, rthn_e]
      refine ok_in (by decide) (ok_chk hin (ok_ip ?_ ?_))
      · rw [hci, hM.1, h60]; rfl
      · refine ok_r (m_has hM hs hi k) ?_
        rw [if_neg hn]
        exact ok_ip rfl (m_no (by decide) h (fun _ => if_neg (by decide)))
theorem a_value (v1 k : Int32) (h : RR σ) : agF (cod2 xI xN) (f_X4_value v1 k σ) (f_X5_value v1 k) := by
  unfold f_X4_value f_X5_value b_X5_value_26
  rcases cl3 v1 with b | ⟨i, hi, rfl⟩
  · rw [map_no b, thn_e]
    refine agF_e (c := 1) (by decide) (by decide) ?_
    rw [mm_no b, rthn_e, if_pos rfl]
    exact m_no (by decide) h (fun _ => if_neg (by decide))
  · have h' := h
    obtain ⟨A, V, H, D, P, ha, hc, hm⟩ := h'
    have hT := hc.1 i hi
    have hM := hm.1 i hi
    have hs := ha.1 i hi
    have hl := hM.2.1
    have hcb := cb_le (A i) k
    rw [map_at hi, thn_r, chk_true (tb3 hi), tb_placeOf hT hs, rthn_e]
    by_cases hp : hasP (A i) k
    · have hlt := hp.1
      rw [if_pos hp, if_pos (nI_ge0 (by omega)), chk_true (inb_nI (by omega) (by omega)), nI_clamp (by omega)]
      refine agF_r ?_
      rw [mm_at hi, rthn_e]
      refine ok_in (by decide) ?_
      refine ok_r (m_has hM hs hi k) ?_
      rw [if_pos hp]
      refine ok_in (by decide) ?_
      rw [m_ref0, wthn_e, if_pos rfl]
      have m2 := hm.scr (rf_R 0 σ)
      refine ok_r (m_placeOf (m2.1 i hi) hs hi k) ?_
      rw [if_pos hp, ix]
      refine ok_chk (inb_nI (by omega) (by omega)) (ok_ret ⟨rf_20 0 σ, ?_, h.scr (rf_R 0 σ)⟩)
      show rf 0 σ 46 (nI (60 * i + cb (A i) k)).toNatClampNeg = _
      rw [nI_clamp (by omega), ((m2.1 i hi).2.2 _ hlt).2, (hT.2.2 _ hlt).2]
    · rw [if_neg hp, if_neg (by decide)]
      refine agF_e (c := 2) (by decide) (by decide) ?_
      rw [mm_at hi, rthn_e]
      refine ok_in (by decide) ?_
      refine ok_r (m_has hM hs hi k) ?_
      rw [if_neg hp]
      exact ok_ip rfl (m_no (by decide) h (fun _ => if_neg (by decide)))
theorem a_remove (v1 k : Int32) (h : RR σ) : agF (cod1 xI) (f_X4_remove v1 k σ) (f_X5_remove v1 k) := by
  unfold f_X4_remove f_X5_remove b_X5_remove_13
  rcases cl3 v1 with b | ⟨i, hi, rfl⟩
  · rw [map_no b, thn_e]
    refine agF_e (c := 1) (by decide) (by decide) ?_
    rw [mm_no b, rthn_e, if_pos rfl]
    exact m_no (by decide) h (fun _ => if_neg (by decide))
  · have h' := h
    obtain ⟨A, V, H, D, P, ha, hc, hm⟩ := h'
    have hT := hc.1 i hi
    have hM := hm.1 i hi
    have hs := ha.1 i hi
    have hl := hM.2.1
    have hcb := cb_le (A i) k
    have hin : inb (nI i) 3 = true := inb_nI hi (by omega)
    have hci : (nI i).toNatClampNeg = i := nI_clamp (by omega)
    rw [map_at hi, thn_r, chk_true (tb3 hi)]
    refine ok_w (tb_drop hT hs k) (fun x σ1 q1 => agF_r ?_)
    dsimp only at q1
    have c1 := hc.tab hi q1.2.1 q1.2.2
    have m1 : MR σ1 A V H D P := hm.hi (q1.2.2.hi hi)
    have m2 := m1.scr (rf_R 0 σ1)
    have hM2 := m2.1 i hi
    rw [mm_at hi, rthn_e, if_neg (by decide), m_ref0, wthn_e, if_pos rfl]
    refine ok_r (m_has hM2 hs hi k) ?_
    by_cases hp : hasP (A i) k
    · rw [if_pos hp]
      refine ok_in (by decide) ?_
      refine ok_r (m_placeOf hM2 hs hi k) ?_
      rw [if_pos hp]
      refine ok_w (m_takes hM2 hi hp.1) (fun _ σ3 q3 => ok_chk hin (ok_ret ⟨?_, ?_, ?_⟩)) <;> dsimp only at q3
      · show σ3 44 20 = 0
        rw [q3.2.1 44 (by omega) (by omega) (by omega)]
        exact rf_20 0 σ1
      · show σ3 47 (nI i).toNatClampNeg = σ1 (6 + 3 * i) 2
        rw [hci, q3.1.1, q1.2.1.1, del_old hs hp, erase_td]
      · have q3a : MB σ3 i (del (A i) k) := by rw [del_old hs hp, erase_td]; exact q3.1
        exact ⟨_, V, H, D, P, ha.tab (del_srt hs k), (c1.low (rf_R 0 σ1).low).low q3.2.low, m2.tab q3a q3.2⟩
    · rw [if_neg hp]
      refine ok_ip rfl (ok_chk hin (ok_ret ⟨rf_20 0 σ1, ?_, ?_⟩))
      · show rf 0 σ1 47 (nI i).toNatClampNeg = σ1 (6 + 3 * i) 2
        rw [hci, hM2.1, q1.2.1.1, del_new hs hp]
      · have q3a : MB (rf 0 σ1) i (del (A i) k) := by rw [del_new hs hp]; exact hM2
        exact ⟨_, V, H, D, P, ha.tab (del_srt hs k), c1.low (rf_R 0 σ1).low, m2.tab q3a frM.rf⟩
