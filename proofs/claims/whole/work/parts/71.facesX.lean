/-! the faces over views: polls, clearing -/
variable {σ σ' : sM} {A : Nat → LM} {V : Nat → Option VW} {H : Nat → LH} {D : List Int32} {P : Option Int32}
theorem a_viewPoll (v1 v2 : Int32) (h : RR σ) : agF (cod2 xI xN) (f_X4_viewPoll v1 v2 σ) (f_X5_viewPoll v1 v2) := by
  unfold f_X4_viewPoll f_X5_viewPoll f_X4_endPlace
  rcases cl4 v1 with b | ⟨v, hv, rfl⟩
  · unfold b_X5_viewPoll_34
    rw [vie_no b, thn_e]
    refine agF_e (c := 1) (by decide) (by decide) ?_
    rw [mv_no b, rthn_e, if_pos rfl]
    exact m_no (by decide) h (fun _ => if_neg (by decide))
  · have h' := h
    obtain ⟨A, V, H, D, P, ha, hc, hm⟩ := h'
    have hcv : (nI v).toNatClampNeg = v := nI_clamp (by omega)
    have hin : inb (nI v) 4 = true := inb_nI hv (by omega)
    rw [vie_at hv, thn_r, chk_true (vb4 hv)]
    cases e : V v with
    | none =>
      unfold b_X5_viewPoll_34
      rw [so_no (cv_none hc hv e), thn_e]
      refine agF_e (c := 2) (by decide) (by decide) ?_
      rw [mv_at hv, rthn_e, if_neg (by decide)]
      refine ok_chk hin (ok_ip (by rw [hcv]; exact mv_none hm hv e) ?_)
      exact m_no (by decide) h (fun _ => if_neg (by decide))
    | some w =>
      have hw := VO.lt ha hv e
      have hT := hc.1 _ hw
      have hs := ha.1 _ hw
      have hl := (hm.1 _ hw).2.1
      have h1 := bW_le (A := A) w
      have h2 := eW_le (A := A) w
      have h3 := bW_eW (A := A) w
      rw [so_ok hw (cv_some hc hv e).1, thn_r, chk_true (tb3 hw), cw_begin ha hc hv e, rthn_e, cw_stop ha hc hv e, rthn_e]
      by_cases c0 : bW A w < eW A w
      · have into : ∀ (p : Nat) (σ1 : sM) (r : Int32), p < (A w.1).length → (if v2 = 0 then p = bW A w else p = eW A w - 1) → r = kA (A w.1) p → CR σ1 (ua A w.1 (er (A w.1) p)) V H D (some (vA (A w.1) p)) → MR σ1 A V H D P → ok (rthn (f_X5_isView (nI v) σ1) (fun vr1 => if vr1 = 0 then b_X5_viewPoll_34 (nI v) v2 1 σ1 else chk (inb (nI v) 4) (if (σ1 48 (nI v).toNatClampNeg) = 0 then b_X5_viewPoll_34 (nI v) v2 2 σ1 else rthn (f_X5_manyOf (nI v) σ1) (fun vr5 => if vr5 = 0 then b_X5_viewPoll_34 (nI v) v2 2 σ1 else b_X5_viewPoll_34 (nI v) v2 0 σ1)))) (fun p => p.2 44 20 = 0 ∧ p.1 = r ∧ RR p.2) := by
          intro p σ1 r hp hvp hr c1 m1
          have m2 := m1.scr (rf_R 0 σ1)
          have c2 := c1.low (rf_R 0 σ1).low
          have fin := m_pollR hw hp (ha.tab (er_srt hs p)) rfl rfl c2 m2 (rf_20 0 σ1)
          rw [mv_at hv, rthn_e, if_neg (by decide)]
          refine ok_chk hin (ok_in (by rw [hcv, (mv_some m1 hv e).1]; decide) (ok_r (mw_many ha m1 hv e) (ok_in ?_ ?_)))
          · exact fun q => nW0.mp ((nI_eq (b := 0) (by rw [nW_eq]; omega) (by omega)).mp q) c0
          · unfold b_X5_viewPoll_34
            rw [m_ref0, wthn_e, if_pos rfl, hr]
            refine ok_chk hin (ok_if (fun c => ok_r (mw_first ha m2 hv e) ?_) (fun c => ok_r (mw_behind ha m2 hv e) ?_))
            · rw [if_pos c] at hvp
              rw [hcv, (mv_some m2 hv e).2.1, ← hvp]
              exact ok_w fin (fun r σ3 q3 => ok_ret q3)
            · rw [if_neg c] at hvp
              rw [hcv, (mv_some m2 hv e).2.1, one_nI, pk_sub (by omega), ← hvp]
              exact ok_w fin (fun r σ3 q3 => ok_ret q3)
        rw [if_pos (nI_lt c0 (by omega))]
        by_cases c : v2 = 0
        · rw [if_pos c, thn_r]
          refine ok_w (j_poll (p := bW A w) hw (by omega) ha hs hc hT) (fun x σ1 q1 => agF_r ?_)
          dsimp only at q1
          exact into _ σ1 x (by omega) (by rw [if_pos c]) q1.1 q1.2.1 (hm.hi q1.2.2.2.1)
        · rw [if_neg c, thn_r, one_nI, pk_sub (by omega)]
          refine ok_w (j_poll (p := eW A w - 1) hw (by omega) ha hs hc hT) (fun x σ1 q1 => agF_r ?_)
          dsimp only at q1
          exact into _ σ1 x (by omega) (by rw [if_neg c]) q1.1 q1.2.1 (hm.hi q1.2.2.2.1)
      · unfold b_X5_viewPoll_34
        rw [if_neg (nI_nlt (by omega) (by omega)), thn_e]
        refine agF_e (c := 2) (by decide) (by decide) ?_
        rw [mv_at hv, rthn_e, if_neg (by decide)]
        refine ok_chk hin (ok_in (by rw [hcv, (mv_some hm hv e).1]; decide) (ok_r (mw_many ha hm hv e) (ok_ip ?_ ?_)))
        · rw [nW0.mpr c0]; rfl
        · exact m_no (by decide) h (fun _ => if_neg (by decide))
/-- the list without its places from b up to e -/
def ct (L : LM) (b e : Nat) : LM := L.take b ++ L.drop e
theorem ct_len {L : LM} {b e : Nat} (h1 : b ≤ e) (h2 : e ≤ L.length) : (ct L b e).length = L.length - (e - b) := by
  unfold ct
  rw [List.length_append, List.length_take, List.length_drop]; omega
theorem ct_er {L : LM} {b d : Nat} (h : b + d < L.length) : er (ct L b (b + d)) b = ct L b (b + d + 1) := by
  unfold er ct
  have e1 : (L.take b).length = b := by rw [List.length_take]; omega
  rw [List.take_append_of_le_length (by omega), List.take_of_length_le (by omega), List.drop_append, e1, List.drop_of_length_le (by omega), List.nil_append, show b + 1 - b = 1 from by omega, List.drop_drop]
theorem ct_srt {L : LM} (hs : Srt L) {b e : Nat} (h : b ≤ e) : Srt (ct L b e) := by
  unfold ct
  have hd : (L.drop e).Sublist (L.drop b) := by
    rw [show e = b + (e - b) from by omega, ← List.drop_drop]
    exact List.drop_sublist _ _
  have h2 : (L.take b ++ L.drop e).Sublist (L.take b ++ L.drop b) := List.Sublist.append_left hd (L.take b)
  rw [List.take_append_drop] at h2
  exact List.Pairwise.sublist h2 hs
theorem m_clear49 {v i : Nat} {L : LM} (hv : v < 4) (hi : i < 3) (h49 : σ 49 v = nI i) (hM : MB σ i L) {b m : Nat} (hbm : b + m ≤ L.length) : ok (b_X5_viewClear_49 FU (nI v) (nI m) (nI b) 0 σ) (fun q => q.1 = nI m ∧ MB q.2 i (ct L b (b + m)) ∧ frM σ q.2 i) := by
  have hl := hM.2.1
  have loop : ∀ (d j n : Nat) (σ1 : sM), m = j + d → d + 1 ≤ n → MB σ1 i (ct L b (b + j)) → frM σ σ1 i → ok (b_X5_viewClear_49 n (nI v) (nI m) (nI b) (nI j) σ1) (fun q => q.1 = nI m ∧ MB q.2 i (ct L b (b + m)) ∧ frM σ q.2 i) := by
    intro d
    induction d with
    | zero =>
      intro j n σ1 hj hn hM1 hf
      obtain ⟨n, rfl⟩ : ∃ z, n = z + 1 := ⟨n - 1, by omega⟩
      rw [Nat.add_zero] at hj
      show ok (if nI m ≤ nI j then _ else _) _
      refine ok_ip (nI_le (by omega) (by omega)) (ok_ret ⟨rfl, ?_, hf⟩)
      rw [hj]; exact hM1
    | succ d ih =>
      intro j n σ1 hj hn hM1 hf
      obtain ⟨n, rfl⟩ : ∃ z, n = z + 1 := ⟨n - 1, by omega⟩
      have h9 : σ1 49 v = nI i := by rw [hf.1 49 (by omega) (by omega) (by omega)]; exact h49
      have hln := ct_len (L := L) (b := b) (e := b + j) (by omega) (by omega)
      show ok (if nI m ≤ nI j then _ else _) _
      refine ok_in (nI_ge (by omega) (by omega)) (ok_chk (inb_nI hv (by omega)) ?_)
      rw [nI_clamp (by omega), h9]
      refine ok_w (m_takes hM1 hi (p := b) (by omega)) (fun _ σ2 q2 => ?_)
      dsimp only at q2
      rw [nI_1]
      have q2a : MB σ2 i (er (ct L b (b + j)) b) := q2.1
      rw [ct_er (by omega)] at q2a
      exact ih (j + 1) n σ2 (by omega) (by omega) q2a (hf.tr q2.2)
  refine loop m 0 FU σ (by omega) (by unfold FU; omega) ?_ frM.rf
  have : ct L b (b + 0) = L := List.take_append_drop b L
  rw [this]; exact hM
theorem a_viewClear (v1 : Int32) (h : RR σ) : agF (cod2 xI xN) (f_X4_viewClear v1 σ) (f_X5_viewClear v1) := by
  unfold f_X4_viewClear f_X5_viewClear b_X5_viewClear_26
  rcases cl4 v1 with b | ⟨v, hv, rfl⟩
  · rw [vie_no b, thn_e]
    refine agF_e (c := 1) (by decide) (by decide) ?_
    rw [mv_no b, rthn_e, if_pos rfl]
    exact m_no (by decide) h (fun _ => if_neg (by decide))
  · have h' := h
    obtain ⟨A, V, H, D, P, ha, hc, hm⟩ := h'
    have hcv : (nI v).toNatClampNeg = v := nI_clamp (by omega)
    have hin : inb (nI v) 4 = true := inb_nI hv (by omega)
    rw [vie_at hv, thn_r, chk_true (vb4 hv)]
    cases e : V v with
    | none =>
      rw [so_no (cv_none hc hv e), thn_e]
      refine agF_e (c := 2) (by decide) (by decide) ?_
      rw [mv_at hv, rthn_e, if_neg (by decide)]
      refine ok_chk hin (ok_ip (by rw [hcv]; exact mv_none hm hv e) ?_)
      exact m_no (by decide) h (fun _ => if_neg (by decide))
    | some w =>
      have hw := VO.lt ha hv e
      have hT := hc.1 _ hw
      have hs := ha.1 _ hw
      have hl := (hm.1 _ hw).2.1
      have h1 := bW_le (A := A) w
      have h2 := eW_le (A := A) w
      have h3 := bW_eW (A := A) w
      have hn : bW A w + nW A w = eW A w := by rw [nW_eq]; omega
      rw [so_ok hw (cv_some hc hv e).1, thn_r, chk_true (tb3 hw), cw_begin ha hc hv e, rthn_e, cw_stop ha hc hv e, rthn_e]
      have cls : ok (f_X2_dropPlaces (6 + 3 * w.1) (nI (bW A w)) (nI (eW A w)) σ) (fun q => TB q.2 (6 + 3 * w.1) (ct (A w.1) (bW A w) (eW A w)) ∧ frT σ q.2 (6 + 3 * w.1)) := by
        by_cases c : bW A w < eW A w
        · exact tb_dropPlaces hT c h2
        · rw [tb_dropNone hT (by omega) (by omega)]
          refine ok_ret ⟨?_, frT.rf⟩
          have e0 : eW A w = bW A w := by omega
          have : ct (A w.1) (bW A w) (eW A w) = A w.1 := by rw [e0]; exact List.take_append_drop _ _
          rw [this]; exact hT
      refine ok_w cls (fun _ σ1 q1 => agF_r ?_)
      dsimp only at q1
      have a1 := ha.tab (i := w.1) (ct_srt hs h3)
      have c1 := hc.tab hw q1.1 q1.2
      have m1 : MR σ1 A V H D P := hm.hi (q1.2.hi hw)
      have m2 := m1.scr (rf_R 0 σ1)
      have hln := ct_len h3 h2
      rw [mv_at hv, rthn_e, if_neg (by decide)]
      refine ok_chk hin (ok_in (by rw [hcv, (mv_some m1 hv e).1]; decide) ?_)
      rw [m_ref0, wthn_e, if_pos rfl, mw_many ha m2 hv e, rthn_e, mw_first ha m2 hv e, rthn_e]
      refine ok_mono (m_clear49 hv hw (mv_some m2 hv e).2.1 (m2.1 _ hw) (by omega)) (fun q hq => ⟨?_, ?_, ?_⟩)
      · rw [hq.2.2.1 44 (by omega) (by omega) (by omega)]; exact rf_20 0 σ1
      · rw [hq.1, hT.1, q1.1.1, pk_sub (by omega)]
        congr 1
        rw [hln, nW_eq]; omega
      · have hq2 := hq.2.1
        rw [hn] at hq2
        exact ⟨_, V, H, D, P, a1, (c1.low (rf_R 0 σ1).low).low hq.2.2.low, m2.tab hq2 hq.2.2⟩
