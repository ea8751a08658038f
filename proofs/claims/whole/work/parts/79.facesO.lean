/-! a view is cut, third -/
variable {σ σ' : sM} {A : Nat → LM} {V : Nat → Option VW} {H : Nat → LH} {D : List Int32} {P : Option Int32}
theorem a_cut (v1 v2 hd k f : Int32) (hf : f = 0 ∨ f = 1) (h : RR σ) : agF (cod4 xI xN xA xS) (f_X4_cut v1 v2 hd k f σ) (f_X5_cut v1 v2 hd k f) := by
  have no62 : ∀ {σ : sM} (c : Int32), c ≠ 0 → RR σ → ok (b_X5_cut_62 v1 v2 hd k f c σ) (fun p => p.2 44 20 = c ∧ RR p.2) := by
    intro σ c hc0 hR
    unfold b_X5_cut_62
    exact m_no hc0 hR (fun _ => if_neg (by decide))
  unfold f_X4_cut f_X5_cut
  rcases cl4 v1 with b | ⟨v, hv, rfl⟩
  · rw [vie_no b, thn_e]
    refine agF_e (c := 1) (by decide) (by decide) ?_
    rw [mv_no b, rthn_e, if_pos rfl]
    exact no62 1 (by decide) h
  · rcases cl4 v2 with b | ⟨u, hu, rfl⟩
    · rw [vie_at hv, thn_r, chk_true (vb4 hv), vie_no b, thn_e]
      refine agF_e (c := 1) (by decide) (by decide) ?_
      rw [mv_at hv, rthn_e, if_neg (by decide), mv_no b, rthn_e, if_pos rfl]
      exact no62 1 (by decide) h
    · have h' := h
      obtain ⟨A, V, H, D, P, ha, hc, hm⟩ := h'
      have iu : inb (nI u) 4 = true := inb_nI hu (by omega)
      have nu : (nI u).toNatClampNeg = u := nI_clamp (by omega)
      rw [vie_at hv, thn_r, chk_true (vb4 hv), vie_at hu, thn_r, chk_true (vb4 hu)]
      cases e : V u with
      | none =>
        rw [rc_no (cv_none hc hu e), thn_e]
        refine agF_e (c := 2) (by decide) (by decide) ?_
        rw [mv_at hv, rthn_e, if_neg (by decide), mv_at hu, rthn_e, if_neg (by decide)]
        refine ok_chk iu (ok_ip (by rw [nu]; exact mv_none hm hu e) ?_)
        exact no62 2 (by decide) h
      | some w =>
        have hw := VO.lt ha hu e
        have hO : VO (some w) := by have := ha.2.1 u hu; rw [e] at this; exact this
        have h12 := hO.2.2.2
        rw [rc_ok hw (cv_some hc hu e).1, thn_r, cw_covers hc hu e, rthn_e]
        rcases kW_01 w k with z | z
        · rw [z, if_pos rfl]
          refine agF_e (c := 3) (by decide) (by decide) ?_
          rw [mv_at hv, rthn_e, if_neg (by decide), mv_at hu, rthn_e, if_neg (by decide)]
          refine ok_chk iu (ok_in (by rw [nu, (mv_some hm hu e).1]; decide) ?_)
          rw [mw_in hm hu e, rthn_e, z, if_pos rfl]
          exact no62 3 (by decide) h
        · rw [z, if_neg (by decide), (cv_some hc hu e).2.2.2.2.2]
          by_cases c : w.2.2.2.2.2 < 12
          · have c' : nI w.2.2.2.2.2 < (12 : Int32) := nI_lt (b := 12) c (by omega)
            have a1 : AO A (ua V v (some (cutW w hd k f))) D := by
              refine ha.vie ⟨hw, ?_, ?_, c⟩
              · show (if hd = 0 then f else w.2.2.1) = 0 ∨ (if hd = 0 then f else w.2.2.1) = 1
                by_cases q : hd = 0
                · rw [if_pos q]; exact hf
                · rw [if_neg q]; exact hO.2.1
              · show (if hd = 0 then w.2.2.2.2.1 else f) = 0 ∨ (if hd = 0 then w.2.2.2.2.1 else f) = 1
                by_cases q : hd = 0
                · rw [if_pos q]; exact hO.2.2.1
                · rw [if_neg q]; exact hf
            rw [if_pos c']
            refine ok_w (c_cut ha hc hv hu e hd k f hf) (fun _ σ1 q1 => ?_)
            dsimp only at q1
            have c1 := hc.vie hv q1.1 q1.2
            have m1 : MR σ1 A V H D P := hm.hi (fun x hx => q1.2 x (by omega))
            rw [cw_count a1 c1 hv ua_s, rthn_e]
            refine agF_r ?_
            rw [mv_at hv, rthn_e, if_neg (by decide), mv_at hu, rthn_e, if_neg (by decide)]
            refine ok_chk iu (ok_in (by rw [nu, (mv_some m1 hu e).1]; decide) ?_)
            rw [mw_in m1 hu e, rthn_e, z, if_neg (by decide)]
            refine ok_chk iu (ok_in ?_ ?_)
            · rw [nu, (mv_some m1 hu e).2.2.2.2.2.2]
              intro q
              have := (nI_eq (b := 12) (by omega) (by omega)).mp q
              omega
            · refine ok_mono (m_cut62 ha m1 hv hu e hd k f hf a1) (fun q hq => ⟨hq.1, hq.2.1, ?_⟩)
              exact ⟨A, _, H, D, P, a1, c1.low hq.2.2.2, hq.2.2.1⟩
          · have e12 : w.2.2.2.2.2 = 12 := by omega
            have c' : ¬ nI w.2.2.2.2.2 < (12 : Int32) := nI_nlt (b := 12) (by omega) (by omega)
            rw [if_neg c']
            refine agF_e (c := 4) (by decide) (by decide) ?_
            rw [mv_at hv, rthn_e, if_neg (by decide), mv_at hu, rthn_e, if_neg (by decide)]
            refine ok_chk iu (ok_in (by rw [nu, (mv_some hm hu e).1]; decide) ?_)
            rw [mw_in hm hu e, rthn_e, z, if_neg (by decide)]
            refine ok_chk iu (ok_ip (by rw [nu, (mv_some hm hu e).2.2.2.2.2.2, e12]; rfl) ?_)
            exact no62 4 (by decide) h
