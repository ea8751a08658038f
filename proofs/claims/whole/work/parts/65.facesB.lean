/-! near keys, ends, places, polls -/
variable {σ σ' : sM} {A : Nat → LM} {V : Nat → Option VW} {H : Nat → LH} {D : List Int32} {P : Option Int32}
theorem way_yes {w : Int32} (h : way4 w) (σ : sM) : f_X4_isNearWay w σ = some 1 ∧ f_X5_isWay w σ = some 1 := by
  rcases h with rfl | rfl | rfl | rfl <;> exact ⟨rfl, rfl⟩
theorem way_no {w : Int32} (h : ¬ way4 w) (σ : sM) : f_X4_isNearWay w σ = some 0 ∧ f_X5_isWay w σ = some 0 := by
  have h1 : ¬ w = 102 := fun e => h (Or.inl e)
  have h2 : ¬ w = 99 := fun e => h (Or.inr (Or.inl e))
  have h3 : ¬ w = 104 := fun e => h (Or.inr (Or.inr (Or.inl e)))
  have h4 : ¬ w = 108 := fun e => h (Or.inr (Or.inr (Or.inr e)))
  unfold f_X4_isNearWay f_X5_isWay
  rw [if_neg h1, if_neg h2, if_neg h3, if_neg h4]
  exact ⟨rfl, rfl⟩
theorem a_near (v1 k w : Int32) (h : RR σ) : agF (cod3 xI xA xN) (f_X4_near v1 k w σ) (f_X5_near v1 k w) := by
  unfold f_X4_near f_X5_near b_X5_near_45
  rcases cl3 v1 with b | ⟨i, hi, rfl⟩
  · rw [map_no b, thn_e]
    refine agF_e (c := 1) (by decide) (by decide) ?_
    rw [mm_no b, rthn_e, if_pos rfl]
    exact m_no (by decide) h (fun _ => if_neg (by decide))
  · have h' := h
    obtain ⟨A, V, H, D, P, ha, hc, hm⟩ := h'
    have hT := hc.1 i hi
    have hM := hm.1 i hi
    have hs := ha.1 i hi
    have hl := hM.2.1
    have hin : inb (nI i) 3 = true := inb_nI hi (by omega)
    have hci : (nI i).toNatClampNeg = i := nI_clamp (by omega)
    rw [map_at hi, thn_r, chk_true (tb3 hi)]
    by_cases hw : way4 w
    · have e1 : f_X2_placeNear (6 + 3 * i) k w 0 (σ (6 + 3 * i) 2) σ = some (nr (A i) k w 0 (A i).length) := by
        rw [hT.1]; exact c_near (b := 0) hT hs hw (by omega) (by omega)
      have e2 : ∀ σ1, MB σ1 i (A i) → f_X5_nearAt (nI i) 0 (σ1 47 (nI i).toNatClampNeg) k w σ1 = some (nr (A i) k w 0 (A i).length) := fun σ1 h1 => by
        rw [hci, h1.1]; exact m_near (b := 0) h1 hs hi hw (by omega) (Nat.le_refl _)
      rw [(way_yes hw σ).1, rthn_e, if_neg (by decide), e1, rthn_e]
      rcases nr_in (L := A i) (k := k) (w := w) (b := 0) (e := (A i).length) with z | ⟨p, hp, z⟩
      · rw [z, if_neg (by decide)]
        refine agF_e (c := 3) (by decide) (by decide) ?_
        rw [mm_at hi, rthn_e, if_neg (by decide), (way_yes hw σ).2, rthn_e, if_neg (by decide)]
        refine ok_chk hin ?_
        rw [e2 σ hM, rthn_e, z, if_neg (by decide)]
        exact m_no (by decide) h (fun _ => if_neg (by decide))
      · rw [z, if_pos (nI_ge0 (by omega)), chk_true (inb_nI (by omega) (by omega))]
        refine agF_r ?_
        rw [mm_at hi, rthn_e, if_neg (by decide), (way_yes hw σ).2, rthn_e, if_neg (by decide)]
        refine ok_chk hin ?_
        rw [e2 σ hM, rthn_e, z, if_pos (nI_ge0 (by omega)), m_ref0, wthn_e, if_pos rfl]
        have hM2 := (hm.scr (rf_R 0 σ)).1 i hi
        refine ok_chk hin ?_
        rw [e2 _ hM2, rthn_e, z, ix]
        refine ok_chk (inb_nI (by omega) (by omega)) (ok_ret ⟨rf_20 0 σ, ?_, h.scr (rf_R 0 σ)⟩)
        show rf 0 σ 45 (nI (60 * i + p)).toNatClampNeg = _
        rw [nI_clamp (by omega), nI_clamp (by omega), (hM2.2.2 p hp).1, (hT.2.2 p hp).1]
    · rw [(way_no hw σ).1, rthn_e, if_pos rfl]
      refine agF_e (c := 2) (by decide) (by decide) ?_
      rw [mm_at hi, rthn_e, if_neg (by decide), (way_no hw σ).2, rthn_e, if_pos rfl]
      exact m_no (by decide) h (fun _ => if_neg (by decide))
theorem a_end (v1 v2 : Int32) (h : RR σ) : agF (cod2 xI xN) (f_X4_end v1 v2 σ) (f_X5_end v1 v2) := by
  unfold f_X4_end f_X5_end b_X5_end_26 f_X4_endPlace
  rcases cl3 v1 with b | ⟨i, hi, rfl⟩
  · rw [map_no b, thn_e]
    refine agF_e (c := 1) (by decide) (by decide) ?_
    rw [mm_no b, rthn_e, if_pos rfl]
    exact m_no (by decide) h (fun _ => if_neg (by decide))
  · have h' := h
    obtain ⟨A, V, H, D, P, ha, hc, hm⟩ := h'
    have hT := hc.1 i hi
    have hM := hm.1 i hi
    have hs := ha.1 i hi
    have hl := hM.2.1
    have hin : inb (nI i) 3 = true := inb_nI hi (by omega)
    have hci : (nI i).toNatClampNeg = i := nI_clamp (by omega)
    rw [map_at hi, thn_r, chk_true (tb3 hi), hT.1]
    by_cases c0 : (A i).length = 0
    · have n0 : ¬ (0 : Int32) < nI (A i).length := by rw [c0]; decide
      rw [if_neg n0, thn_e]
      refine agF_e (c := 2) (by decide) (by decide) ?_
      rw [mm_at hi, rthn_e, if_neg (by decide)]
      refine ok_chk hin (ok_ip (by rw [hci, hM.1, c0]; rfl) (m_no (by decide) h (fun _ => if_neg (by decide))))
    · have n0 : (0 : Int32) < nI (A i).length := nI_lt (a := 0) (by omega) (by omega)
      have hM2 := (hm.scr (rf_R 0 σ)).1 i hi
      have e1 : nI (A i).length - (1 : Int32) = nI ((A i).length - 1) := by rw [one_nI, pk_sub (by omega)]
      have pre : ∀ (r : Int32), (if v2 = 0 then kA (A i) 0 else kA (A i) ((A i).length - 1)) = r → ok (rthn (f_X5_isMap (nI i) σ) (fun vr1 => if vr1 = 0 then b_X5_end_26 (nI i) v2 1 σ else chk (inb (nI i) 3) (if (σ 47 (nI i).toNatClampNeg) = 0 then b_X5_end_26 (nI i) v2 2 σ else b_X5_end_26 (nI i) v2 0 σ))) (fun p => p.2 44 20 = 0 ∧ p.1 = r ∧ RR p.2) := by
        intro r hr
        unfold b_X5_end_26
        rw [mm_at hi, rthn_e, if_neg (by decide)]
        refine ok_chk hin (ok_in (by rw [hci, hM.1]; exact fun q => c0 ((nI_eq (b := 0) (by omega) (by omega)).mp q)) ?_)
        rw [m_ref0, wthn_e, if_pos rfl]
        refine ok_if (fun c => ?_) (fun c => ?_)
        · rw [if_pos c] at hr
          have e0 : (60 : Int32) * nI i + 0 = nI (60 * i + 0) := ix (j := 0)
          rw [e0]
          refine ok_chk (inb_nI (by omega) (by omega)) (ok_ret ⟨rf_20 0 σ, ?_, h.scr (rf_R 0 σ)⟩)
          show rf 0 σ 45 (nI (60 * i + 0)).toNatClampNeg = _
          rw [nI_clamp (by omega), (hM2.2.2 0 (by omega)).1, hr]
        · rw [if_neg c] at hr
          refine ok_chk hin ?_
          rw [hci, hM2.1, e1, ix]
          refine ok_chk (inb_nI (by omega) (by omega)) (ok_ret ⟨rf_20 0 σ, ?_, h.scr (rf_R 0 σ)⟩)
          show rf 0 σ 45 (nI (60 * i + ((A i).length - 1))).toNatClampNeg = _
          rw [nI_clamp (by omega), (hM2.2.2 _ (by omega)).1, hr]
      rw [if_pos n0]
      by_cases c : v2 = 0
      · rw [if_pos c, thn_r]
        refine ok_chk (inb_nI (k := 0) (by omega) (by omega)) (agF_r ?_)
        refine pre _ ?_
        rw [if_pos c]
        exact ((hT.2.2 0 (by omega)).1).symm
      · rw [if_neg c, thn_r, e1]
        refine ok_chk (inb_nI (by omega) (by omega)) (agF_r ?_)
        refine pre _ ?_
        rw [if_neg c, nI_clamp (by omega)]
        exact ((hT.2.2 _ (by omega)).1).symm
theorem m_in {x : Int32} {n : Nat} (hn : n < 2 ^ 30) (σ : sM) : f_X5_in x 0 (nI n - 1) σ = some (if x < 0 then 0 else if x < nI n then 1 else 0) := by
  unfold f_X5_in
  by_cases c : x < 0
  · rw [if_pos c, if_pos c]
  · rw [if_neg c, if_neg c]
    obtain ⟨j, h3, rfl⟩ := nI_of c
    by_cases n0 : n = 0
    · have e : nI n - (1 : Int32) < nI j := by
        rw [n0, show nI 0 - (1 : Int32) = -1 from by decide, Int32.lt_iff_toInt_lt, nI_toInt h3]
        show (-1 : Int) < j
        omega
      rw [if_pos e, if_neg (by rw [n0]; exact nI_nlt (by omega) (by omega))]
    · have e1 : nI n - (1 : Int32) = nI (n - 1) := by rw [one_nI, pk_sub (by omega)]
      rw [e1]
      by_cases c2 : j < n
      · rw [if_neg (nI_nlt (by omega) (by omega)), if_pos (nI_lt c2 (by omega))]
      · rw [if_pos (nI_lt (by omega) h3), if_neg (nI_nlt (by omega) (by omega))]
theorem a_keyAt (v1 v2 v3 : Int32) (h : RR σ) : agF (cod1 xI) (f_X4_keyAt v1 v2 v3 σ) (f_X5_keyAt v1 v2 v3) := by
  unfold f_X4_keyAt f_X5_keyAt b_X5_keyAt_29
  rcases cl3 v1 with b | ⟨i, hi, rfl⟩
  · rw [map_no b, thn_e]
    refine agF_e (c := 1) (by decide) (by decide) ?_
    rw [mm_no b, rthn_e, if_pos rfl]
    exact m_no (by decide) h (fun _ => if_neg (by decide))
  · have h' := h
    obtain ⟨A, V, H, D, P, ha, hc, hm⟩ := h'
    have hT := hc.1 i hi
    have hM := hm.1 i hi
    have hl := hM.2.1
    have hin : inb (nI i) 3 = true := inb_nI hi (by omega)
    have hci : (nI i).toNatClampNeg = i := nI_clamp (by omega)
    have hM2 := (hm.scr (rf_R 0 σ)).1 i hi
    rw [map_at hi, thn_r, chk_true (tb3 hi), hT.1]
    by_cases c : v2 < 0
    · rw [if_pos c]
      refine agF_e (c := 1) (by decide) (by decide) ?_
      rw [mm_at hi, rthn_e, if_neg (by decide)]
      refine ok_chk hin ?_
      rw [hci, hM.1, m_in (by omega), if_pos c, rthn_e, if_pos rfl]
      exact m_no (by decide) h (fun _ => if_neg (by decide))
    · rw [if_neg c]
      by_cases c2 : v2 < nI (A i).length
      · obtain ⟨j, h3, rfl⟩ := nI_of c
        have hj : j < (A i).length := (nI_ltI h3 (by omega)).mp c2
        have e1 : nI (A i).length - (1 : Int32) - nI j = nI ((A i).length - 1 - j) := by rw [one_nI, pk_sub (by omega), pk_sub (by omega)]
        rw [if_pos c2]
        by_cases c3 : v3 = 0
        · rw [if_pos c3, chk_true (inb_nI (by omega) (by omega))]
          refine agF_r ?_
          rw [mm_at hi, rthn_e, if_neg (by decide)]
          refine ok_chk hin ?_
          rw [hci, hM.1, m_in (by omega), if_neg c, if_pos c2, rthn_e, if_neg (by decide), m_ref0, wthn_e, if_pos rfl, if_pos c3, ix]
          refine ok_chk (inb_nI (by omega) (by omega)) (ok_ret ⟨rf_20 0 σ, ?_, h.scr (rf_R 0 σ)⟩)
          show rf 0 σ 45 (nI (60 * i + j)).toNatClampNeg = _
          rw [nI_clamp (by omega), nI_clamp (by omega), (hM2.2.2 j hj).1, (hT.2.2 j hj).1]
        · rw [if_neg c3, e1, chk_true (inb_nI (by omega) (by omega))]
          refine agF_r ?_
          rw [mm_at hi, rthn_e, if_neg (by decide)]
          refine ok_chk hin ?_
          rw [hci, hM.1, m_in (by omega), if_neg c, if_pos c2, rthn_e, if_neg (by decide), m_ref0, wthn_e, if_pos rfl, if_neg c3, hM2.1, e1, ix]
          refine ok_chk hin (ok_chk (inb_nI (by omega) (by omega)) (ok_ret ⟨rf_20 0 σ, ?_, h.scr (rf_R 0 σ)⟩))
          show rf 0 σ 45 (nI (60 * i + ((A i).length - 1 - j))).toNatClampNeg = _
          rw [nI_clamp (by omega), nI_clamp (by omega), (hM2.2.2 _ (by omega)).1, (hT.2.2 _ (by omega)).1]
      · rw [if_neg c2]
        refine agF_e (c := 1) (by decide) (by decide) ?_
        rw [mm_at hi, rthn_e, if_neg (by decide)]
        refine ok_chk hin ?_
        rw [hci, hM.1, m_in (by omega), if_neg c, if_neg c2, rthn_e, if_pos rfl]
        exact m_no (by decide) h (fun _ => if_neg (by decide))
theorem a_polled (h : RR σ) : agF (cod1 xN) (f_X4_polled σ) f_X5_polled := by
  have h' := h
  obtain ⟨A, V, H, D, P, ha, hc, hm⟩ := h'
  unfold f_X4_polled f_X5_polled
  have hp := hc.2.2.2.2
  have hq := hm.2.2.2.2
  cases P with
  | none =>
    have e1 : σ 0 6 = 0 := hp
    have e2 : σ 44 18 = 0 := hq
    rw [if_pos e1]
    refine agF_e (c := 1) (by decide) (by decide) ?_
    rw [if_pos e2]
    exact m_no (by decide) h (fun _ => if_neg (by decide))
  | some x =>
    have e1 : σ 0 6 = 1 ∧ σ 0 7 = x := hp
    have e2 : σ 44 18 = 1 ∧ σ 44 19 = x := hq
    rw [if_neg (by rw [e1.1]; decide), e1.2]
    refine agF_r ?_
    rw [if_neg (by rw [e2.1]; decide), m_ref0, wthn_e, if_pos rfl]
    refine ok_ret ⟨rf_20 0 σ, ?_, h.scr (rf_R 0 σ)⟩
    show rf 0 σ 44 19 = x
    rw [(rf_R 0 σ).2.2.2]
    exact e2.2
theorem a_drained (v1 : Int32) (h : RR σ) : agF (cod1 xI) (f_X4_drained v1 σ) (f_X5_drained v1) := by
  have h' := h
  obtain ⟨A, V, H, D, P, ha, hc, hm⟩ := h'
  have hd := hc.2.2.2.1
  have he := hm.2.2.2.1
  have hl := ha.2.2
  unfold f_X4_drained f_X5_drained
  rw [hd.1]
  by_cases c : v1 < 0
  · rw [if_pos c]
    refine agF_e (c := 1) (by decide) (by decide) ?_
    rw [he.1, m_in (by omega), if_pos c, rthn_e, if_pos rfl]
    exact m_no (by decide) h (fun _ => if_neg (by decide))
  · rw [if_neg c]
    by_cases c2 : v1 < nI D.length
    · obtain ⟨j, h3, rfl⟩ := nI_of c
      have hj : j < D.length := (nI_ltI h3 (by omega)).mp c2
      rw [if_pos c2, chk_true (inb_nI (by omega) (by omega)), nI_clamp (by omega), hd.2 j hj]
      refine agF_r ?_
      rw [he.1, m_in (by omega), if_neg c, if_pos c2, rthn_e, if_neg (by decide), m_ref0, wthn_e, if_pos rfl]
      refine ok_chk (inb_nI (by omega) (by omega)) (ok_ret ⟨rf_20 0 σ, ?_, h.scr (rf_R 0 σ)⟩)
      show rf 0 σ 60 j = _
      rw [rf_k 0 σ (by omega), he.2 j hj]
    · rw [if_neg c2]
      refine agF_e (c := 1) (by decide) (by decide) ?_
      rw [he.1, m_in (by omega), if_neg c, if_neg c2, rthn_e, if_pos rfl]
      exact m_no (by decide) h (fun _ => if_neg (by decide))
