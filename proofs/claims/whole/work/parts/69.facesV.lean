/-! the faces over views -/
variable {σ σ' : sM} {A : Nat → LM} {V : Nat → Option VW} {H : Nat → LH} {D : List Int32} {P : Option Int32}
/-- what the two sides make of an open view -/
def nW (A : Nat → LM) (w : VW) : Nat := many (A w.1) w.2.1 w.2.2.1 w.2.2.2.1 w.2.2.2.2.1
def bW (A : Nat → LM) (w : VW) : Nat := bg (A w.1) w.2.1 w.2.2.1
def eW (A : Nat → LM) (w : VW) : Nat := en (A w.1) w.2.1 w.2.2.1 w.2.2.2.1 w.2.2.2.2.1
def kW (w : VW) (k : Int32) : Int32 := cvr w.2.1 w.2.2.1 w.2.2.2.1 w.2.2.2.2.1 k
theorem bW_le (w : VW) : bW A w ≤ (A w.1).length := bg_le _ _ _
theorem eW_le (w : VW) : eW A w ≤ (A w.1).length := en_le _ _ _ _ _
theorem bW_eW (w : VW) : bW A w ≤ eW A w := bg_en _ _ _ _ _
theorem nW_eq (w : VW) : nW A w = eW A w - bW A w := rfl
theorem VO.lt {v : Nat} {w : VW} (ha : AO A V D) (hv : v < 4) (e : V v = some w) : w.1 < 3 := by
  have := ha.2.1 v hv
  rw [e] at this
  exact this.1
theorem cv_some {v : Nat} {w : VW} (hc : CR σ A V H D P) (hv : v < 4) (e : V v = some w) : σ (24 + v) 0 = nI (6 + 3 * w.1) ∧ σ (24 + v) 2 = w.2.1 ∧ σ (24 + v) 3 = w.2.2.1 ∧ σ (24 + v) 4 = w.2.2.2.1 ∧ σ (24 + v) 5 = w.2.2.2.2.1 ∧ σ (24 + v) 1 = nI w.2.2.2.2.2 := by
  have := hc.2.1 v hv
  rw [e] at this
  exact this
theorem cv_none {v : Nat} (hc : CR σ A V H D P) (hv : v < 4) (e : V v = none) : σ (24 + v) 0 = 0 := by
  have := hc.2.1 v hv
  rw [e] at this
  exact this
theorem mv_some {v : Nat} {w : VW} (hm : MR σ A V H D P) (hv : v < 4) (e : V v = some w) : σ 48 v = 1 ∧ σ 49 v = nI w.1 ∧ σ 50 v = w.2.1 ∧ σ 52 v = w.2.2.1 ∧ σ 51 v = w.2.2.2.1 ∧ σ 53 v = w.2.2.2.2.1 ∧ σ 54 v = nI w.2.2.2.2.2 := by
  have := hm.2.1 v hv
  rw [e] at this
  exact this
theorem mv_none {v : Nat} (hm : MR σ A V H D P) (hv : v < 4) (e : V v = none) : σ 48 v = 0 := by
  have := hm.2.1 v hv
  rw [e] at this
  exact this
theorem cw_begin {v : Nat} {w : VW} (ha : AO A V D) (hc : CR σ A V H D P) (hv : v < 4) (e : V v = some w) : f_X3_beginIn (24 + v) (6 + 3 * w.1) σ = some (nI (bW A w)) := by
  have hw := VO.lt ha hv e
  obtain ⟨c0, c2, c3, c4, c5, c1⟩ := cv_some hc hv e
  rw [c_beginIn (hc.1 _ hw) (ha.1 _ hw), c2, c3]
  rfl
theorem cw_stop {v : Nat} {w : VW} (ha : AO A V D) (hc : CR σ A V H D P) (hv : v < 4) (e : V v = some w) : f_X3_stopIn (24 + v) (6 + 3 * w.1) σ = some (nI (eW A w)) := by
  have hw := VO.lt ha hv e
  obtain ⟨c0, c2, c3, c4, c5, c1⟩ := cv_some hc hv e
  rw [c_stopIn (hc.1 _ hw) (ha.1 _ hw), c2, c3, c4, c5]
  rfl
theorem cw_count {v : Nat} {w : VW} (ha : AO A V D) (hc : CR σ A V H D P) (hv : v < 4) (e : V v = some w) : f_X3_countEntries (24 + v) σ = some (nI (nW A w)) := by
  have hw := VO.lt ha hv e
  obtain ⟨c0, c2, c3, c4, c5, c1⟩ := cv_some hc hv e
  rw [c_countEntries (hc.1 _ hw) (ha.1 _ hw) (isT_m (t3 hw)) c0, c2, c3, c4, c5]
  rfl
theorem cw_covers {v : Nat} {w : VW} (hc : CR σ A V H D P) (hv : v < 4) (e : V v = some w) (k : Int32) : f_X3_covers (24 + v) k σ = some (kW w k) := by
  obtain ⟨c0, c2, c3, c4, c5, c1⟩ := cv_some hc hv e
  rw [c_covers, c2, c3, c4, c5]
  rfl
theorem mw_first {v : Nat} {w : VW} (ha : AO A V D) (hm : MR σ A V H D P) (hv : v < 4) (e : V v = some w) : f_X5_firstOf (nI v) σ = some (nI (bW A w)) := by
  have hw := VO.lt ha hv e
  obtain ⟨c0, c1, c2, c3, c4, c5, c6⟩ := mv_some hm hv e
  rw [m_firstOf (hm.1 _ hw) (ha.1 _ hw) hw hv c1, c2, c3]
  rfl
theorem mw_behind {v : Nat} {w : VW} (ha : AO A V D) (hm : MR σ A V H D P) (hv : v < 4) (e : V v = some w) : f_X5_behindOf (nI v) σ = some (nI (eW A w)) := by
  have hw := VO.lt ha hv e
  obtain ⟨c0, c1, c2, c3, c4, c5, c6⟩ := mv_some hm hv e
  rw [m_behindOf (hm.1 _ hw) (ha.1 _ hw) hw hv c1, c2, c3, c4, c5]
  rfl
theorem mw_many {v : Nat} {w : VW} (ha : AO A V D) (hm : MR σ A V H D P) (hv : v < 4) (e : V v = some w) : f_X5_manyOf (nI v) σ = some (nI (nW A w)) := by
  have hw := VO.lt ha hv e
  obtain ⟨c0, c1, c2, c3, c4, c5, c6⟩ := mv_some hm hv e
  rw [m_manyOf (hm.1 _ hw) (ha.1 _ hw) hw hv c1, c2, c3, c4, c5]
  rfl
theorem mw_in {v : Nat} {w : VW} (hm : MR σ A V H D P) (hv : v < 4) (e : V v = some w) (k : Int32) : f_X5_isIn (nI v) k σ = some (kW w k) := by
  obtain ⟨c0, c1, c2, c3, c4, c5, c6⟩ := mv_some hm hv e
  rw [m_isIn σ hv, c2, c3, c4, c5]
  rfl
theorem rc_no {t : Nat} (h : σ t 0 = 0) : f_X4_refuseClosed t σ = some (.inl xN, σ) := by
  unfold f_X4_refuseClosed
  rw [h, sSrc_0]
  rfl
theorem rc_ok {t i : Nat} (hi : i < 3) (h : σ t 0 = nI (6 + 3 * i)) : f_X4_refuseClosed t σ = some (.inr (), σ) := by
  unfold f_X4_refuseClosed
  rw [h, sSrc_nI (isT_m (t3 hi))]
  rfl
theorem so_no {t : Nat} (h : σ t 0 = 0) : f_X4_sourceOf t σ = some (.inl xN, σ) := by
  unfold f_X4_sourceOf
  rw [rc_no h, thn_e]
theorem so_ok {t i : Nat} (hi : i < 3) (h : σ t 0 = nI (6 + 3 * i)) : f_X4_sourceOf t σ = some (.inr (6 + 3 * i), σ) := by
  unfold f_X4_sourceOf
  rw [rc_ok hi h, thn_r, h, sSrc_nI (isT_m (t3 hi))]
  rfl
theorem kW_01 (w : VW) (k : Int32) : kW w k = 0 ∨ kW w k = 1 := cvr_01 _ _ _ _ _
theorem a_viewSize (v1 : Int32) (h : RR σ) : agF (cod1 xI) (f_X4_viewSize v1 σ) (f_X5_viewSize v1) := by
  unfold f_X4_viewSize f_X5_viewSize b_X5_viewSize_13
  rcases cl4 v1 with b | ⟨v, hv, rfl⟩
  · rw [vie_no b, thn_e]
    refine agF_e (c := 1) (by decide) (by decide) ?_
    rw [mv_no b, rthn_e, if_pos rfl]
    exact m_no (by decide) h (fun _ => if_neg (by decide))
  · have h' := h
    obtain ⟨A, V, H, D, P, ha, hc, hm⟩ := h'
    have m2 := hm.scr (rf_R 0 σ)
    have hcv : (nI v).toNatClampNeg = v := nI_clamp (by omega)
    rw [vie_at hv, thn_r, chk_true (vb4 hv)]
    cases e : V v with
    | none =>
      rw [c_countNone (cv_none hc hv e), rthn_e]
      refine agF_r ?_
      rw [mv_at hv, rthn_e, if_neg (by decide), m_ref0, wthn_e, if_pos rfl]
      refine ok_chk (inb_nI hv (by omega)) (ok_ip ?_ (ok_ret ⟨rf_20 0 σ, rfl, h.scr (rf_R 0 σ)⟩))
      rw [hcv]; exact mv_none m2 hv e
    | some w =>
      rw [cw_count ha hc hv e, rthn_e]
      refine agF_r ?_
      rw [mv_at hv, rthn_e, if_neg (by decide), m_ref0, wthn_e, if_pos rfl]
      refine ok_chk (inb_nI hv (by omega)) (ok_in ?_ ?_)
      · rw [hcv, (mv_some m2 hv e).1]; decide
      · rw [mw_many ha m2 hv e, rthn_e]
        exact ok_ret ⟨rf_20 0 σ, rfl, h.scr (rf_R 0 σ)⟩
theorem a_lies (v1 k : Int32) (h : RR σ) : agF (cod2 xI xN) (f_X4_lies v1 k σ) (f_X5_lies v1 k) := by
  unfold f_X4_lies f_X5_lies
  rcases cl4 v1 with b | ⟨v, hv, rfl⟩
  · rw [vie_no b, thn_e]
    refine agF_e (c := 1) (by decide) (by decide) ?_
    rw [mv_no b, rthn_e, if_pos rfl]
    exact m_no (by decide) h (fun _ => if_neg (by decide))
  · have h' := h
    obtain ⟨A, V, H, D, P, ha, hc, hm⟩ := h'
    have m2 := hm.scr (rf_R 0 σ)
    have hcv : (nI v).toNatClampNeg = v := nI_clamp (by omega)
    rw [vie_at hv, thn_r, chk_true (vb4 hv)]
    cases e : V v with
    | none =>
      rw [rc_no (cv_none hc hv e), thn_e]
      refine agF_e (c := 2) (by decide) (by decide) ?_
      rw [mv_at hv, rthn_e, if_neg (by decide)]
      refine ok_chk (inb_nI hv (by omega)) (ok_ip (by rw [hcv]; exact mv_none hm hv e) ?_)
      exact m_no (by decide) h (fun _ => if_neg (by decide))
    | some w =>
      have hw := VO.lt ha hv e
      have hb : isb (kW w k) = true := by rcases kW_01 w k with z | z <;> (rw [z]; rfl)
      rw [rc_ok hw (cv_some hc hv e).1, thn_r, cw_covers hc hv e, rthn_e, chk_true hb]
      refine agF_r ?_
      rw [mv_at hv, rthn_e, if_neg (by decide)]
      refine ok_chk (inb_nI hv (by omega)) (ok_in (by rw [hcv, (mv_some hm hv e).1]; decide) ?_)
      rw [m_ref0, wthn_e, if_pos rfl, mw_in m2 hv e, rthn_e]
      rcases kW_01 w k with z | z
      · rw [z, if_pos rfl]
        exact ok_ret ⟨rf_20 0 σ, rfl, h.scr (rf_R 0 σ)⟩
      · rw [z, if_neg (by decide)]
        exact ok_ret ⟨rf_20 0 σ, rfl, h.scr (rf_R 0 σ)⟩
theorem a_viewNear (v1 k y : Int32) (h : RR σ) : agF (cod3 xI xA xN) (f_X4_viewNear v1 k y σ) (f_X5_viewNear v1 k y) := by
  unfold f_X4_viewNear f_X5_viewNear b_X5_viewNear_47
  rcases cl4 v1 with b | ⟨v, hv, rfl⟩
  · rw [vie_no b, thn_e]
    refine agF_e (c := 1) (by decide) (by decide) ?_
    rw [mv_no b, rthn_e, if_pos rfl]
    exact m_no (by decide) h (fun _ => if_neg (by decide))
  · have h' := h
    obtain ⟨A, V, H, D, P, ha, hc, hm⟩ := h'
    have m2 := hm.scr (rf_R 0 σ)
    have hcv : (nI v).toNatClampNeg = v := nI_clamp (by omega)
    have hin : inb (nI v) 4 = true := inb_nI hv (by omega)
    rw [vie_at hv, thn_r, chk_true (vb4 hv)]
    by_cases hy : way4 y
    · rw [(way_yes hy σ).1, rthn_e, if_neg (by decide)]
      cases e : V v with
      | none =>
        rw [so_no (cv_none hc hv e), thn_e]
        refine agF_e (c := 3) (by decide) (by decide) ?_
        rw [mv_at hv, rthn_e, if_neg (by decide), (way_yes hy σ).2, rthn_e, if_neg (by decide)]
        refine ok_chk hin (ok_ip (by rw [hcv]; exact mv_none hm hv e) ?_)
        exact m_no (by decide) h (fun _ => if_neg (by decide))
      | some w =>
        have hw := VO.lt ha hv e
        have hl := (hm.1 _ hw).2.1
        have h1 := bW_le (A := A) w
        have h2 := eW_le (A := A) w
        have h3 := bW_eW (A := A) w
        have e2 : ∀ σ1, MR σ1 A V H D P → f_X5_viewNearAt (nI v) k y σ1 = some (nr (A w.1) k y (bW A w) (eW A w)) := fun σ1 g => by
          unfold f_X5_viewNearAt
          rw [chk_true hin, mw_first ha g hv e, rthn_e, mw_behind ha g hv e, rthn_e, hcv, (mv_some g hv e).2.1, m_near (g.1 _ hw) (ha.1 _ hw) hw hy h3 h2, rthn_e]
        rw [so_ok hw (cv_some hc hv e).1, thn_r, chk_true (tb3 hw), cw_begin ha hc hv e, rthn_e, cw_stop ha hc hv e, rthn_e, c_near (hc.1 _ hw) (ha.1 _ hw) hy (by omega) (by omega), rthn_e]
        rcases nr_in (L := A w.1) (k := k) (w := y) (b := bW A w) (e := eW A w) with z | ⟨p, hp, z⟩
        · rw [z, if_neg (by decide)]
          refine agF_e (c := 3) (by decide) (by decide) ?_
          rw [mv_at hv, rthn_e, if_neg (by decide), (way_yes hy σ).2, rthn_e, if_neg (by decide)]
          refine ok_chk hin (ok_in (by rw [hcv, (mv_some hm hv e).1]; decide) ?_)
          rw [e2 σ hm, rthn_e, z, if_neg (by decide)]
          exact m_no (by decide) h (fun _ => if_neg (by decide))
        · rw [z, if_pos (nI_ge0 (by omega)), chk_true (inb_nI (by omega) (by omega))]
          refine agF_r ?_
          rw [mv_at hv, rthn_e, if_neg (by decide), (way_yes hy σ).2, rthn_e, if_neg (by decide)]
          refine ok_chk hin (ok_in (by rw [hcv, (mv_some hm hv e).1]; decide) ?_)
          rw [e2 σ hm, rthn_e, z, if_pos (nI_ge0 (by omega)), m_ref0, wthn_e, if_pos rfl]
          refine ok_chk hin ?_
          rw [e2 _ m2, rthn_e, z, hcv, (mv_some m2 hv e).2.1, ix]
          refine ok_chk (inb_nI (by omega) (by omega)) (ok_ret ⟨rf_20 0 σ, ?_, h.scr (rf_R 0 σ)⟩)
          show rf 0 σ 45 (nI (60 * w.1 + p)).toNatClampNeg = _
          rw [nI_clamp (by omega), nI_clamp (by omega), ((m2.1 _ hw).2.2 p (by omega)).1, ((hc.1 _ hw).2.2 p (by omega)).1]
    · rw [(way_no hy σ).1, rthn_e, if_pos rfl]
      refine agF_e (c := 2) (by decide) (by decide) ?_
      rw [mv_at hv, rthn_e, if_neg (by decide), (way_no hy σ).2, rthn_e, if_pos rfl]
      exact m_no (by decide) h (fun _ => if_neg (by decide))
