/-! the faces over views that change maps -/
variable {σ σ' : sM} {A : Nat → LM} {V : Nat → Option VW} {H : Nat → LH} {D : List Int32} {P : Option Int32}
theorem a_viewPut (v1 k x : Int32) (h : RR σ) : agF (cod4 xI xN xA xS) (f_X4_viewPut v1 k x σ) (f_X5_viewPut v1 k x) := by
  unfold f_X4_viewPut f_X5_viewPut b_X5_viewPut_73
  rcases cl4 v1 with b | ⟨v, hv, rfl⟩
  · rw [vie_no b, thn_e]
    refine agF_e (c := 1) (by decide) (by decide) ?_
    rw [mv_no b, rthn_e, if_pos rfl]
    exact m_no (by decide) h (fun _ => if_neg (by decide))
  · have h' := h
    obtain ⟨A, V, H, D, P, ha, hc, hm⟩ := h'
    have hcv : (nI v).toNatClampNeg = v := nI_clamp (by omega)
    have hin : inb (nI v) 4 = true := inb_nI hv (by omega)
    rw [vie_at hv, thn_r, chk_true (vb4 hv)]
    cases e : V v with
    | none =>
      rw [so_no (cv_none hc hv e), thn_e]
      refine agF_e (c := 2) (by decide) (by decide) ?_
      rw [mv_at hv, rthn_e, if_neg (by decide)]
      refine ok_chk hin (ok_ip (by rw [hcv]; exact mv_none hm hv e) ?_)
      exact m_no (by decide) h (fun _ => if_neg (by decide))
    | some w =>
      have hw := VO.lt ha hv e
      have hT := hc.1 _ hw
      have hM := hm.1 _ hw
      have hs := ha.1 _ hw
      have hl := hM.2.1
      have hw3 : inb (nI w.1) 3 = true := inb_nI hw (by omega)
      have hcw : (nI w.1).toNatClampNeg = w.1 := nI_clamp (by omega)
      rw [so_ok hw (cv_some hc hv e).1, thn_r, chk_true (tb3 hw), cw_covers hc hv e, rthn_e]
      rcases kW_01 w k with z | z
      · rw [z, if_pos rfl]
        refine agF_e (c := 3) (by decide) (by decide) ?_
        rw [mv_at hv, rthn_e, if_neg (by decide)]
        refine ok_chk hin (ok_in (by rw [hcv, (mv_some hm hv e).1]; decide) ?_)
        rw [mw_in hm hv e, rthn_e, z, if_pos rfl]
        exact m_no (by decide) h (fun _ => if_neg (by decide))
      · rw [z, if_neg (by decide)]
        by_cases hr : hasP (A w.1) k ∨ (A w.1).length < 60
        · refine ok_t (pw_ok hT hs hl hr) (fun σ1 q1 => ?_)
          dsimp only at q1
          have a1 := ha.tab (i := w.1) (ins_srt hs k x)
          have c1 := hc.tab hw q1.1 q1.2
          have m1 : MR σ1 A V H D P := hm.hi (q1.2.hi hw)
          have m2 := m1.scr (rf_R 0 σ1)
          rw [cw_count a1 c1 hv e, rthn_e]
          refine agF_r ?_
          have r73 : ok (wthn (f_X5_refused 0 σ1) (fun vr13 σ13 => if vr13 = 0 then (chk (inb (nI v) 4) (wthn (f_X5_puts (σ13 49 (nI v).toNatClampNeg) k x σ13) (fun _ σ16 => rthn (f_X5_manyOf (nI v) σ16) (fun vr17 => some (vr17, σ16))))) else some ((0 : Int32), σ13))) (fun p => p.2 44 20 = 0 ∧ p.1 = nI (nW (ua A w.1 (ins (A w.1) k x)) w) ∧ RR p.2) := by
            rw [m_ref0, wthn_e, if_pos rfl]
            refine ok_chk hin ?_
            rw [hcv, (mv_some m2 hv e).2.1]
            refine ok_w (m_puts (m2.1 _ hw) hs hw k x hr) (fun _ σ3 q3 => ?_)
            dsimp only at q3
            have m3 := m2.tab q3.1 q3.2
            refine ok_r (mw_many a1 m3 hv e) (ok_ret ⟨?_, rfl, ?_⟩)
            · show σ3 44 20 = 0
              rw [q3.2.1 44 (by omega) (by omega) (by omega)]
              exact rf_20 0 σ1
            · exact ⟨_, V, H, D, P, a1, (c1.low (rf_R 0 σ1).low).low q3.2.low, m3⟩
          rw [hcv] at r73
          rw [mv_at hv, rthn_e, if_neg (by decide)]
          refine ok_chk hin (ok_in (by rw [hcv, (mv_some m1 hv e).1]; decide) ?_)
          rw [mw_in m1 hv e, rthn_e, z, if_neg (by decide), hcv, (mv_some m1 hv e).2.1]
          refine ok_chk hin (ok_chk hw3 (ok_if (fun c => ok_chk hin ?_) (fun _ => r73)))
          have hp : hasP (A w.1) k := hr.resolve_right (fun z2 => by
            rw [hcw, (m1.1 _ hw).1] at c
            have := (nI_eq (b := 60) (by omega) (by omega)).mp c
            omega)
          refine ok_r (m_has (m1.1 _ hw) hs hw k) ?_
          rw [if_pos hp]
          exact ok_in (by decide) r73
        · have hn : ¬ hasP (A w.1) k := fun c => hr (Or.inl c)
          have h60 : (A w.1).length = 60 := by
            rcases Nat.lt_or_ge (A w.1).length 60 with q | q
            · exact absurd (Or.inr q) hr
            · omega
          rw [pw_no hT hs hn h60, thn_e]
          refine agF_e (c := 4) (by decide) (by decide) ?_
          rw [mv_at hv, rthn_e, if_neg (by decide)]
          refine ok_chk hin (ok_in (by rw [hcv, (mv_some hm hv e).1]; decide) ?_)
          rw [mw_in hm hv e, rthn_e, z, if_neg (by decide), hcv, (mv_some hm hv e).2.1]
          refine ok_chk hin (ok_chk hw3 (ok_ip (by rw [hcw, hM.1, h60]; rfl) (ok_chk hin ?_)))
          refine ok_r (m_has hM hs hw k) ?_
          rw [if_neg hn]
          exact ok_ip rfl (m_no (by decide) h (fun _ => if_neg (by decide)))
theorem a_viewRemove (v1 k : Int32) (h : RR σ) : agF (cod2 xI xN) (f_X4_viewRemove v1 k σ) (f_X5_viewRemove v1 k) := by
  unfold f_X4_viewRemove f_X5_viewRemove
  rcases cl4 v1 with b | ⟨v, hv, rfl⟩
  · unfold b_X5_viewRemove_26
    rw [vie_no b, thn_e]
    refine agF_e (c := 1) (by decide) (by decide) ?_
    rw [mv_no b, rthn_e, if_pos rfl]
    exact m_no (by decide) h (fun _ => if_neg (by decide))
  · have h' := h
    obtain ⟨A, V, H, D, P, ha, hc, hm⟩ := h'
    have hcv : (nI v).toNatClampNeg = v := nI_clamp (by omega)
    have hin : inb (nI v) 4 = true := inb_nI hv (by omega)
    rw [vie_at hv, thn_r, chk_true (vb4 hv)]
    cases e : V v with
    | none =>
      unfold b_X5_viewRemove_26
      rw [so_no (cv_none hc hv e), thn_e]
      refine agF_e (c := 2) (by decide) (by decide) ?_
      rw [mv_at hv, rthn_e, if_neg (by decide)]
      refine ok_chk hin (ok_ip (by rw [hcv]; exact mv_none hm hv e) ?_)
      exact m_no (by decide) h (fun _ => if_neg (by decide))
    | some w =>
      have hw := VO.lt ha hv e
      have hT := hc.1 _ hw
      have hM := hm.1 _ hw
      have hs := ha.1 _ hw
      rw [so_ok hw (cv_some hc hv e).1, thn_r, chk_true (tb3 hw), cw_covers hc hv e, rthn_e]
      have into : ∀ (σ1 : sM) (r : Int32), MR σ1 A V H D P → ok (b_X5_viewRemove_26 (nI v) k 0 σ1) (fun p => p.2 44 20 = 0 ∧ p.1 = r ∧ RR p.2) → ok (rthn (f_X5_isView (nI v) σ1) (fun vr1 => if vr1 = 0 then b_X5_viewRemove_26 (nI v) k 1 σ1 else chk (inb (nI v) 4) (if (σ1 48 (nI v).toNatClampNeg) = 0 then b_X5_viewRemove_26 (nI v) k 2 σ1 else b_X5_viewRemove_26 (nI v) k 0 σ1))) (fun p => p.2 44 20 = 0 ∧ p.1 = r ∧ RR p.2) := by
        intro σ1 r m1 g
        rw [mv_at hv, rthn_e, if_neg (by decide)]
        exact ok_chk hin (ok_in (by rw [hcv, (mv_some m1 hv e).1]; decide) g)
      rcases kW_01 w k with z | z
      · rw [z, if_pos rfl]
        refine agF_r (into σ 0 hm ?_)
        unfold b_X5_viewRemove_26 b_X5_viewRemove_62
        rw [m_ref0, wthn_e, if_pos rfl, mw_in (hm.scr (rf_R 0 σ)) hv e, rthn_e, z, if_pos rfl, if_pos rfl]
        exact ok_chk (by decide) (ok_ret ⟨rf_20 0 σ, rfl, h.scr (rf_R 0 σ)⟩)
      · rw [z, if_neg (by decide)]
        refine ok_w (tb_drop hT hs k) (fun y σ1 q1 => ?_)
        dsimp only at q1
        have a1 := ha.tab (i := w.1) (del_srt hs k)
        have c1 := hc.tab hw q1.2.1 q1.2.2
        have m1 : MR σ1 A V H D P := hm.hi (q1.2.2.hi hw)
        have m2 := m1.scr (rf_R 0 σ1)
        have hM2 := m2.1 _ hw
        rw [q1.1]
        by_cases hp : hasP (A w.1) k
        · rw [if_pos hp, if_neg (by decide)]
          refine agF_r (into σ1 1 m1 ?_)
          unfold b_X5_viewRemove_26 b_X5_viewRemove_62
          rw [m_ref0, wthn_e, if_pos rfl, mw_in m2 hv e, rthn_e, z, if_neg (by decide), hcv, (mv_some m2 hv e).2.1]
          refine ok_chk hin (ok_r (m_has hM2 hs hw k) ?_)
          rw [if_pos hp]
          refine ok_in (by decide) (ok_in (by decide) (ok_chk hin (ok_chk hin (ok_r (m_placeOf hM2 hs hw k) ?_))))
          rw [if_pos hp]
          refine ok_w (m_takes hM2 hw hp.1) (fun _ σ3 q3 => ok_chk (by decide) (ok_ret ⟨?_, rfl, ?_⟩)) <;> dsimp only at q3
          · show σ3 44 20 = 0
            rw [q3.2.1 44 (by omega) (by omega) (by omega)]
            exact rf_20 0 σ1
          · have q3a : MB σ3 w.1 (del (A w.1) k) := by rw [del_old hs hp, erase_td]; exact q3.1
            exact ⟨_, V, H, D, P, a1, (c1.low (rf_R 0 σ1).low).low q3.2.low, m2.tab q3a q3.2⟩
        · rw [if_neg hp, if_pos rfl]
          refine agF_r (into σ1 0 m1 ?_)
          unfold b_X5_viewRemove_26 b_X5_viewRemove_62
          rw [m_ref0, wthn_e, if_pos rfl, mw_in m2 hv e, rthn_e, z, if_neg (by decide), hcv, (mv_some m2 hv e).2.1]
          refine ok_chk hin (ok_r (m_has hM2 hs hw k) ?_)
          rw [if_neg hp]
          refine ok_ip rfl (ok_ip rfl (ok_chk (by decide) (ok_ret ⟨rf_20 0 σ1, rfl, ?_⟩)))
          have q3a : MB (rf 0 σ1) w.1 (del (A w.1) k) := by rw [del_new hs hp]; exact hM2
          exact ⟨_, V, H, D, P, a1, c1.low (rf_R 0 σ1).low, m2.tab q3a frM.rf⟩
theorem nW0 {w : VW} : nW A w = 0 ↔ ¬ bW A w < eW A w := by
  have := bW_eW (A := A) w
  rw [nW_eq]; omega
theorem a_viewEnd (v1 v2 : Int32) (h : RR σ) : agF (cod2 xI xN) (f_X4_viewEnd v1 v2 σ) (f_X5_viewEnd v1 v2) := by
  unfold f_X4_viewEnd f_X5_viewEnd f_X4_endPlace
  rcases cl4 v1 with b | ⟨v, hv, rfl⟩
  · unfold b_X5_viewEnd_34
    rw [vie_no b, thn_e]
    refine agF_e (c := 1) (by decide) (by decide) ?_
    rw [mv_no b, rthn_e, if_pos rfl]
    exact m_no (by decide) h (fun _ => if_neg (by decide))
  · have h' := h
    obtain ⟨A, V, H, D, P, ha, hc, hm⟩ := h'
    have m2 := hm.scr (rf_R 0 σ)
    have hcv : (nI v).toNatClampNeg = v := nI_clamp (by omega)
    have hin : inb (nI v) 4 = true := inb_nI hv (by omega)
    rw [vie_at hv, thn_r, chk_true (vb4 hv)]
    cases e : V v with
    | none =>
      unfold b_X5_viewEnd_34
      rw [so_no (cv_none hc hv e), thn_e]
      refine agF_e (c := 2) (by decide) (by decide) ?_
      rw [mv_at hv, rthn_e, if_neg (by decide)]
      refine ok_chk hin (ok_ip (by rw [hcv]; exact mv_none hm hv e) ?_)
      exact m_no (by decide) h (fun _ => if_neg (by decide))
    | some w =>
      have hw := VO.lt ha hv e
      have hT := hc.1 _ hw
      have hl := (hm.1 _ hw).2.1
      have h1 := bW_le (A := A) w
      have h2 := eW_le (A := A) w
      have h3 := bW_eW (A := A) w
      have hMM := m2.1 _ hw
      rw [so_ok hw (cv_some hc hv e).1, thn_r, chk_true (tb3 hw), cw_begin ha hc hv e, rthn_e, cw_stop ha hc hv e, rthn_e]
      by_cases c0 : bW A w < eW A w
      · have into : ∀ (r : Int32), (if v2 = 0 then kA (A w.1) (bW A w) else kA (A w.1) (eW A w - 1)) = r → ok (rthn (f_X5_isView (nI v) σ) (fun vr1 => if vr1 = 0 then b_X5_viewEnd_34 (nI v) v2 1 σ else chk (inb (nI v) 4) (if (σ 48 (nI v).toNatClampNeg) = 0 then b_X5_viewEnd_34 (nI v) v2 2 σ else rthn (f_X5_manyOf (nI v) σ) (fun vr5 => if vr5 = 0 then b_X5_viewEnd_34 (nI v) v2 2 σ else b_X5_viewEnd_34 (nI v) v2 0 σ)))) (fun p => p.2 44 20 = 0 ∧ p.1 = r ∧ RR p.2) := by
          intro r hr
          rw [mv_at hv, rthn_e, if_neg (by decide)]
          refine ok_chk hin (ok_in (by rw [hcv, (mv_some hm hv e).1]; decide) (ok_r (mw_many ha hm hv e) (ok_in ?_ ?_)))
          · exact fun q => nW0.mp ((nI_eq (b := 0) (by rw [nW_eq]; omega) (by omega)).mp q) c0
          · unfold b_X5_viewEnd_34
            rw [m_ref0, wthn_e, if_pos rfl]
            refine ok_chk hin (ok_if (fun c => ok_r (mw_first ha m2 hv e) ?_) (fun c => ok_r (mw_behind ha m2 hv e) ?_))
            · rw [if_pos c] at hr
              rw [hcv, (mv_some m2 hv e).2.1, ix]
              refine ok_chk (inb_nI (by omega) (by omega)) (ok_ret ⟨rf_20 0 σ, ?_, h.scr (rf_R 0 σ)⟩)
              show rf 0 σ 45 (nI (60 * w.1 + bW A w)).toNatClampNeg = _
              rw [nI_clamp (by omega), (hMM.2.2 _ (by omega)).1, hr]
            · rw [if_neg c] at hr
              rw [hcv, (mv_some m2 hv e).2.1, one_nI, pk_sub (by omega), ix]
              refine ok_chk (inb_nI (by omega) (by omega)) (ok_ret ⟨rf_20 0 σ, ?_, h.scr (rf_R 0 σ)⟩)
              show rf 0 σ 45 (nI (60 * w.1 + (eW A w - 1))).toNatClampNeg = _
              rw [nI_clamp (by omega), (hMM.2.2 _ (by omega)).1, hr]
        rw [if_pos (nI_lt c0 (by omega))]
        by_cases c : v2 = 0
        · rw [if_pos c, thn_r, chk_true (inb_nI (by omega) (by omega)), nI_clamp (by omega)]
          refine agF_r (into _ ?_)
          rw [if_pos c]
          exact ((hT.2.2 _ (by omega)).1).symm
        · rw [if_neg c, thn_r, one_nI, pk_sub (by omega), chk_true (inb_nI (by omega) (by omega)), nI_clamp (by omega)]
          refine agF_r (into _ ?_)
          rw [if_neg c]
          exact ((hT.2.2 _ (by omega)).1).symm
      · unfold b_X5_viewEnd_34
        rw [if_neg (nI_nlt (by omega) (by omega)), thn_e]
        refine agF_e (c := 2) (by decide) (by decide) ?_
        rw [mv_at hv, rthn_e, if_neg (by decide)]
        refine ok_chk hin (ok_in (by rw [hcv, (mv_some hm hv e).1]; decide) (ok_r (mw_many ha hm hv e) (ok_ip ?_ ?_)))
        · rw [nW0.mpr c0]; rfl
        · exact m_no (by decide) h (fun _ => if_neg (by decide))
