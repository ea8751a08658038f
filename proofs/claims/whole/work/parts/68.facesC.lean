/-! likeness, marks, combining -/
variable {σ σ' : sM} {A : Nat → LM} {V : Nat → Option VW} {H : Nat → LH} {D : List Int32} {P : Option Int32}
theorem lm_ext {A B : LM} (e : A.length = B.length) (h : ∀ j, j < A.length → kA A j = kA B j ∧ vA A j = vA B j) : A = B := by
  refine List.ext_getElem e (fun j h1 h2 => ?_)
  have := h j h1
  unfold kA vA at this
  simp only [List.getD_eq_getElem?_getD, List.getElem?_eq_getElem h1, List.getElem?_eq_getElem h2, Option.getD_some] at this
  exact Prod.ext this.1 this.2
theorem m_like52 {i j : Nat} {L M : LM} (hL : MB σ i L) (hM : MB σ j M) (hi : i < 3) (hj : j < 3) (el : L.length = M.length) : b_X5_isLike_52 FU (nI i) (nI j) 1 0 σ = some (if L = M then 1 else 0, σ) := by
  have hl := hL.2.1
  have hin : inb (nI i) 3 = true := inb_nI hi (by omega)
  have hci : (nI i).toNatClampNeg = i := nI_clamp (by omega)
  have zero : ∀ (n z : Nat), z ≤ 60 → b_X5_isLike_52 (n + 1) (nI i) (nI j) 0 (nI z) σ = some (0, σ) := by
    intro n z hz
    show (chk (inb (nI i) 3) (if (σ 47 (nI i).toNatClampNeg) ≤ nI z then _ else _)) = _
    rw [chk_true hin]
    split
    · rfl
    · rfl
  have loop : ∀ (d z n : Nat), L.length = z + d → d + 1 ≤ n → (∀ x, x < z → kA L x = kA M x ∧ vA L x = vA M x) → b_X5_isLike_52 n (nI i) (nI j) 1 (nI z) σ = some (if L = M then 1 else 0, σ) := by
    intro d
    induction d with
    | zero =>
      intro z n hz hn hx
      obtain ⟨n, rfl⟩ : ∃ y, n = y + 1 := ⟨n - 1, by omega⟩
      show (chk (inb (nI i) 3) (if (σ 47 (nI i).toNatClampNeg) ≤ nI z then _ else _)) = _
      rw [chk_true hin, hci, hL.1, if_pos (nI_le (by omega) (by omega)), if_pos (lm_ext el (fun x hx2 => hx x (by omega)))]
      rfl
    | succ d ih =>
      intro z n hz hn hx
      obtain ⟨n, rfl⟩ : ∃ y, n = y + 1 := ⟨n - 1, by omega⟩
      show (chk (inb (nI i) 3) (if (σ 47 (nI i).toNatClampNeg) ≤ nI z then _ else _)) = _
      have i1 : inb (nI (60 * i + z)) 180 = true := inb_nI (by omega) (by omega)
      have i2 : inb (nI (60 * j + z)) 180 = true := inb_nI (by omega) (by omega)
      obtain ⟨m, rfl⟩ : ∃ y, n = y + 1 := ⟨n - 1, by omega⟩
      rw [chk_true hin, hci, hL.1, if_neg (nI_ge (by omega) (by omega)), if_neg (by decide), ix, ix, chk_true i1, chk_true i2, nI_clamp (n := 60 * i + z) (by omega), nI_clamp (n := 60 * j + z) (by omega), (hL.2.2 z (by omega)).1, (hM.2.2 z (by omega)).1, nI_1]
      by_cases c : kA L z = kA M z
      · rw [if_pos c, chk_true i1, chk_true i2, (hL.2.2 z (by omega)).2, (hM.2.2 z (by omega)).2]
        by_cases c2 : vA L z = vA M z
        · rw [if_pos c2]
          exact ih (z + 1) (m + 1) (by omega) (by omega) (fun x hx2 => by
            rcases Nat.lt_or_ge x z with q | q
            · exact hx x q
            · have : x = z := by omega
              rw [this]; exact ⟨c, c2⟩)
        · rw [if_neg c2, zero m (z + 1) (by omega), if_neg (fun e => c2 (by rw [e]))]
      · rw [if_neg c, zero m (z + 1) (by omega), if_neg (fun e => c (by rw [e]))]
  exact loop L.length 0 FU (by omega) (by unfold FU; omega) (fun x hx => absurd hx (Nat.not_lt_zero _))
theorem a_isLike (v1 v2 : Int32) (h : RR σ) : agF (cod1 xI) (f_X4_isLike v1 v2 σ) (f_X5_isLike v1 v2) := by
  unfold f_X4_isLike f_X5_isLike b_X5_isLike_20
  rcases cl3 v1 with b | ⟨i, hi, rfl⟩
  · rw [map_no b, thn_e]
    refine agF_e (c := 1) (by decide) (by decide) ?_
    rw [mm_no b, rthn_e, if_pos rfl]
    exact m_no (by decide) h (fun _ => if_neg (by decide))
  · rcases cl3 v2 with b | ⟨j, hj, rfl⟩
    · rw [map_at hi, thn_r, chk_true (tb3 hi), map_no b, thn_e]
      refine agF_e (c := 1) (by decide) (by decide) ?_
      rw [mm_at hi, rthn_e, if_neg (by decide), mm_no b, rthn_e, if_pos rfl]
      exact m_no (by decide) h (fun _ => if_neg (by decide))
    · have h' := h
      obtain ⟨A, V, H, D, P, ha, hc, hm⟩ := h'
      have hL := (hm.scr (rf_R 0 σ)).1 i hi
      have hM := (hm.scr (rf_R 0 σ)).1 j hj
      have l1 := hL.2.1
      have l2 := hM.2.1
      rw [map_at hi, thn_r, chk_true (tb3 hi), map_at hj, thn_r, chk_true (tb3 hj)]
      refine ok_rb (tb_same (hc.1 i hi) (hc.1 j hj)) (fun r hr => ?_)
      have hb : isb r = true := by rw [hr]; exact isb10
      rw [chk_true hb]
      refine agF_r ?_
      rw [mm_at hi, rthn_e, if_neg (by decide), mm_at hj, rthn_e, if_neg (by decide), m_ref0, wthn_e, if_pos rfl]
      refine ok_chk (inb_nI hi (by omega)) (ok_chk (inb_nI hj (by omega)) ?_)
      rw [nI_clamp (n := i) (by omega), nI_clamp (n := j) (by omega), hL.1, hM.1]
      by_cases el : (A i).length = (A j).length
      · rw [if_pos (by rw [el]), m_like52 hL hM hi hj el]
        exact ok_ret ⟨rf_20 0 σ, hr.symm, h.scr (rf_R 0 σ)⟩
      · rw [if_neg (fun q => el ((nI_eq (by omega) (by omega)).mp q))]
        have e : b_X5_isLike_52 FU (nI i) (nI j) 0 0 (rf 0 σ) = some (0, rf 0 σ) := by
          show (chk (inb (nI i) 3) (if (rf 0 σ 47 (nI i).toNatClampNeg) ≤ 0 then _ else _)) = _
          rw [chk_true (inb_nI hi (by omega))]
          split
          · rfl
          · rfl
        rw [e]
        refine ok_ret ⟨rf_20 0 σ, ?_, h.scr (rf_R 0 σ)⟩
        rw [hr, if_neg (fun q => el (by rw [q]))]
def mkS : LM → Int32 → Int32
  | [], c => c
  | a :: r, c => mkS r (c + (a.1 ^^^ a.2))
theorem c_mark11 {t : Nat} {L : LM} (hT : TB σ t L) : b_X4_mark_11 FU t 0 0 σ = some (.inr (mkS L 0), σ) := by
  have hl := hT.2.1
  have loop : ∀ (R : LM) (j n : Nat) (c : Int32), L.drop j = R → j ≤ 120 → R.length + 1 ≤ n → b_X4_mark_11 n t c (nI j) σ = some (.inr (mkS R c), σ) := by
    intro R
    induction R with
    | nil =>
      intro j n c hd hj hn
      obtain ⟨n, rfl⟩ : ∃ z, n = z + 1 := ⟨n - 1, by omega⟩
      show (if (σ t 2) ≤ nI j then _ else _) = _
      rw [hT.1, if_pos (nI_le (List.drop_eq_nil_iff.mp hd) (by omega))]
      rfl
    | cons s r ih =>
      intro j n c hd hj hn
      obtain ⟨n, rfl⟩ : ∃ z, n = z + 1 := ⟨n - 1, by omega⟩
      have hc1 : (s :: r : LM).length = r.length + 1 := rfl
      obtain ⟨hj2, k1, k2, hd1⟩ := kA_drop hd
      show (if (σ t 2) ≤ nI j then _ else _) = _
      rw [hT.1, if_neg (nI_ge hj2 (by omega)), chk_true (inb_nI (by omega) (by omega)), chk_true (inb_nI (by omega) (by omega)), nI_clamp (by omega), (hT.2.2 j hj2).1, (hT.2.2 j hj2).2, k1, k2, nI_1]
      exact ih (j + 1) n _ hd1 (by omega) (by omega)
  exact loop L 0 FU 0 rfl (by omega) (by unfold FU; omega)
theorem m_mark25 {i : Nat} {L : LM} (hM : MB σ i L) (hi : i < 3) : b_X5_mark_25 FU (nI i) 0 0 σ = some (mkS L 0, σ) := by
  have hl := hM.2.1
  have hin : inb (nI i) 3 = true := inb_nI hi (by omega)
  have hci : (nI i).toNatClampNeg = i := nI_clamp (by omega)
  have loop : ∀ (R : LM) (j n : Nat) (c : Int32), L.drop j = R → j ≤ 60 → R.length + 1 ≤ n → b_X5_mark_25 n (nI i) c (nI j) σ = some (mkS R c, σ) := by
    intro R
    induction R with
    | nil =>
      intro j n c hd hj hn
      obtain ⟨n, rfl⟩ : ∃ z, n = z + 1 := ⟨n - 1, by omega⟩
      show (chk (inb (nI i) 3) (if (σ 47 (nI i).toNatClampNeg) ≤ nI j then _ else _)) = _
      rw [chk_true hin, hci, hM.1, if_pos (nI_le (List.drop_eq_nil_iff.mp hd) (by omega))]
      rfl
    | cons s r ih =>
      intro j n c hd hj hn
      obtain ⟨n, rfl⟩ : ∃ z, n = z + 1 := ⟨n - 1, by omega⟩
      have hc1 : (s :: r : LM).length = r.length + 1 := rfl
      obtain ⟨hj2, k1, k2, hd1⟩ := kA_drop hd
      show (chk (inb (nI i) 3) (if (σ 47 (nI i).toNatClampNeg) ≤ nI j then _ else _)) = _
      rw [chk_true hin, hci, hM.1, if_neg (nI_ge hj2 (by omega)), ix, chk_true (inb_nI (by omega) (by omega)), chk_true (inb_nI (by omega) (by omega)), nI_clamp (by omega), (hM.2.2 j hj2).1, (hM.2.2 j hj2).2, k1, k2, nI_1]
      exact ih (j + 1) n _ hd1 (by omega) (by omega)
  exact loop L 0 FU 0 rfl (by omega) (by unfold FU; omega)
theorem a_mark (v1 : Int32) (h : RR σ) : agF (cod1 xI) (f_X4_mark v1 σ) (f_X5_mark v1) := by
  unfold f_X4_mark f_X5_mark
  rcases cl3 v1 with b | ⟨i, hi, rfl⟩
  · rw [map_no b, thn_e]
    refine agF_e (c := 1) (by decide) (by decide) ?_
    rw [mm_no b, rthn_e, if_pos rfl]
    exact m_no (by decide) h (fun _ => if_neg (by decide))
  · have h' := h
    obtain ⟨A, V, H, D, P, ha, hc, hm⟩ := h'
    rw [map_at hi, thn_r, chk_true (tb3 hi), c_mark11 (hc.1 i hi)]
    refine agF_r ?_
    rw [mm_at hi, rthn_e, if_neg (by decide), m_ref0, wthn_e, if_pos rfl, m_mark25 ((hm.scr (rf_R 0 σ)).1 i hi) hi]
    exact ok_ret ⟨rf_20 0 σ, rfl, h.scr (rf_R 0 σ)⟩
/-! combining -/
abbrev mix3 (w : Int32) : Prop := w = 115 ∨ w = 103 ∨ w = 108
theorem m_together {i j : Nat} {L M : LM} (hL : MB σ i L) (hM : MB σ j M) (hi : i < 3) (hj : j < 3) (hs : Srt M) : f_X5_manyTogether (nI i) (nI j) σ = some (nI (M.length + (flt L M).length)) := by
  have hl := hL.2.1
  have hin : inb (nI i) 3 = true := inb_nI hi (by omega)
  have hci : (nI i).toNatClampNeg = i := nI_clamp (by omega)
  have loop : ∀ (R : LM) (z n c : Nat), L.drop z = R → z ≤ 60 → R.length + 1 ≤ n → b_X5_manyTogether_10 n (nI i) (nI j) (nI c) (nI z) σ = some (nI (c + (flt R M).length)) := by
    intro R
    induction R with
    | nil =>
      intro z n c hd hz hn
      obtain ⟨n, rfl⟩ : ∃ y, n = y + 1 := ⟨n - 1, by omega⟩
      show (chk (inb (nI i) 3) (if (σ 47 (nI i).toNatClampNeg) ≤ nI z then _ else _)) = _
      rw [chk_true hin, hci, hL.1, if_pos (nI_le (List.drop_eq_nil_iff.mp hd) (by omega))]
      rfl
    | cons s r ih =>
      intro z n c hd hz hn
      obtain ⟨n, rfl⟩ : ∃ y, n = y + 1 := ⟨n - 1, by omega⟩
      have hc1 : (s :: r : LM).length = r.length + 1 := rfl
      obtain ⟨hj2, k1, k2, hd1⟩ := kA_drop hd
      show (chk (inb (nI i) 3) (if (σ 47 (nI i).toNatClampNeg) ≤ nI z then _ else _)) = _
      rw [chk_true hin, hci, hL.1, if_neg (nI_ge hj2 (by omega)), ix, chk_true (inb_nI (by omega) (by omega)), nI_clamp (by omega), (hL.2.2 z hj2).1, k1, m_has hM hs hj, rthn_e, nI_1 z]
      have e : flt (s :: r) M = if lk M s.1 = none then s :: flt r M else flt r M := by
        unfold flt
        rw [List.filter_cons]
        cases lk M s.1 <;> rfl
      rw [e]
      by_cases p : hasP M s.1
      · rw [if_pos p, if_neg (by decide), Int32.add_zero, ih (z + 1) n c hd1 (by omega) (by omega), if_neg (by rw [lk_has hs p]; intro c; cases c)]
      · rw [if_neg p, if_pos rfl, nI_1 c, ih (z + 1) n (c + 1) hd1 (by omega) (by omega), if_pos (lk_not hs p), List.length_cons, show c + 1 + (flt r M).length = c + ((flt r M).length + 1) from by omega]
  unfold f_X5_manyTogether
  rw [chk_true (inb_nI hj (by omega)), nI_clamp (by omega), hM.1]
  exact loop L 0 FU M.length rfl (by omega) (by unfold FU; omega)
theorem room_one {U M : LM} (hU : Srt U) (hl : U.length ≤ 60) (hM : Srt M) (hsub : ∀ q, lk U q = none → lk M q = none) {k : Int32} (k1 : lk U k ≠ none) : hasP M k ∨ M.length < 60 := by
  have := room_sub hU hl [(112, (k, 0))] M hM hsub (fun s hs => by
    rcases List.mem_cons.mp hs with q | q
    · rw [q]; exact k1
    · cases q)
  exact this.1
theorem m_comb85 {i j : Nat} {L M : LM} (w : Int32) (hL : MB σ i L) (hM : MB σ j M) (hi : i < 3) (hj : j < 3) (hne : i ≠ j) (hsL : Srt L) (hs : Srt M) (hlen : (tkn w M L).length ≤ 60) (hw : mix3 w) : ok (b_X5_combine_85 FU (nI i) (nI j) w 0 σ) (fun q => q.1 = nI (tkn w M L).length ∧ MB q.2 j (tkn w M L) ∧ frM σ q.2 j) := by
  have hl := hL.2.1
  have hin : inb (nI i) 3 = true := inb_nI hi (by omega)
  have hci : (nI i).toNatClampNeg = i := nI_clamp (by omega)
  have hU := tkn_srt (w := w) hs L
  have loop : ∀ (R : LM) (z n : Nat) (T : LM) (σ1 : sM), L.drop z = R → z ≤ 60 → R.length + 1 ≤ n → Srt R → MB σ1 j T → Srt T → frM σ σ1 j → (tkn w T R).length ≤ 60 → ok (b_X5_combine_85 n (nI i) (nI j) w (nI z) σ1) (fun q => q.1 = nI (tkn w T R).length ∧ MB q.2 j (tkn w T R) ∧ frM σ q.2 j) := by
    intro R
    induction R with
    | nil =>
      intro z n T σ1 hd hz hn _ hT hsT hf _
      obtain ⟨n, rfl⟩ : ∃ y, n = y + 1 := ⟨n - 1, by omega⟩
      have hL1 := hL.fr hf hne
      show ok (chk (inb (nI i) 3) (if (σ1 47 (nI i).toNatClampNeg) ≤ nI z then _ else _)) _
      refine ok_chk hin ?_
      rw [hci, hL1.1]
      refine ok_ip (nI_le (List.drop_eq_nil_iff.mp hd) (by omega)) (ok_chk (inb_nI hj (by omega)) (ok_ret ⟨?_, hT, hf⟩))
      show σ1 47 (nI j).toNatClampNeg = _
      rw [nI_clamp (by omega), hT.1]
      rfl
    | cons s r ih =>
      intro z n T σ1 hd hz hn hsR hT hsT hf hlen
      obtain ⟨n, rfl⟩ : ∃ y, n = y + 1 := ⟨n - 1, by omega⟩
      have hc1 : (s :: r : LM).length = r.length + 1 := rfl
      obtain ⟨hj2, k1, k2, hd1⟩ := kA_drop hd
      have hL1 := hL.fr hf hne
      have hlT := hT.2.1
      have hcb := cb_le T s.1
      have i1 : inb (nI (60 * i + z)) 180 = true := inb_nI (by omega) (by omega)
      have hroom : hasP T s.1 ∨ T.length < 60 := by
        refine room_one (tkn_srt (w := w) hsT (s :: r)) hlen hsT (fun q hq => ?_) ?_
        · rw [lk_tkn hsT hsR] at hq
          cases hr : lk (s :: r) q with
          | none => rw [hr] at hq; exact hq
          | some x => rw [hr] at hq; cases hq
        · rw [lk_tkn hsT hsR]
          have : lk (s :: r) s.1 = some s.2 := if_pos rfl
          rw [this]
          intro c; cases c
      have fin : ∀ x, x = mxo w (lk T s.1) s.2 → ok (wthn (f_X5_puts (nI j) s.1 x σ1) (fun _ σ38 => b_X5_combine_85 n (nI i) (nI j) w (nI z + 1) σ38)) (fun q => q.1 = nI (tkn w T (s :: r)).length ∧ MB q.2 j (tkn w T (s :: r)) ∧ frM σ q.2 j) := by
        intro x hx
        rw [hx]
        refine ok_w (m_puts hT hsT hj s.1 _ hroom) (fun y σ2 hy => ?_)
        rw [nI_1]
        exact ih (z + 1) n _ σ2 hd1 (by omega) (by omega) hsR.tl hy.1 (ins_srt hsT _ _) (hf.tr hy.2) hlen
      show ok (chk (inb (nI i) 3) (if (σ1 47 (nI i).toNatClampNeg) ≤ nI z then _ else _)) _
      refine ok_chk hin ?_
      rw [hci, hL1.1]
      refine ok_in (nI_ge hj2 (by omega)) ?_
      rw [ix]
      refine ok_chk i1 (ok_chk i1 ?_)
      rw [nI_clamp (n := 60 * i + z) (by omega), (hL1.2.2 z hj2).1, (hL1.2.2 z hj2).2, k1, k2]
      refine ok_r (m_placeOf hT hsT hj s.1) ?_
      by_cases p : hasP T s.1
      · have p1 := p.1
        have lkT := lk_has hsT p
        have n0 : ¬ nI (cb T s.1) < 0 := nI_nlt0 (by omega)
        rw [if_pos p]
        refine ok_ip (nI_ge0 (by omega)) ?_
        rw [ix]
        refine ok_chk (inb_nI (by omega) (by omega)) ?_
        rw [nI_clamp (n := 60 * j + cb T s.1) (by omega), (hT.2.2 _ p1).2]
        have h190 : ∀ y : Int32, (w ≠ 115 → (if y = 0 then vA T (cb T s.1) else s.2) = mxo w (lk T s.1) s.2) → ok (b_X5_combine_190 (b_X5_combine_85 n) (nI i) (nI j) w (nI z) s.1 s.2 (nI (cb T s.1)) (vA T (cb T s.1)) y σ1) (fun q => q.1 = nI (tkn w T (s :: r)).length ∧ MB q.2 j (tkn w T (s :: r)) ∧ frM σ q.2 j) := by
          intro y hy
          unfold b_X5_combine_190
          refine ok_in n0 (ok_if (fun c => fin _ ?_) (fun c => ok_if (fun c2 => fin _ ?_) (fun c2 => fin _ ?_)))
          · rw [lkT]
            show s.2 + vA T (cb T s.1) = mixv w (vA T (cb T s.1)) s.2
            unfold mixv
            rw [if_pos c, Int32.add_comm]
          · have := hy c
            rw [if_pos c2] at this
            exact this
          · have := hy c
            rw [if_neg c2] at this
            exact this
        unfold b_X5_combine_155
        refine ok_in n0 (ok_if (fun c => ok_if (fun c2 => h190 0 (fun n115 => ?_)) (fun c2 => h190 1 (fun n115 => ?_))) (fun c => ok_if (fun c2 => h190 0 (fun n115 => ?_)) (fun c2 => h190 1 (fun n115 => ?_))))
        · rw [if_pos rfl, lkT]
          show vA T (cb T s.1) = mixv w (vA T (cb T s.1)) s.2
          unfold mixv
          rw [if_neg n115, if_pos c, if_neg (i_le.mp c2)]
        · rw [if_neg (by decide), lkT]
          show s.2 = mixv w (vA T (cb T s.1)) s.2
          unfold mixv
          rw [if_neg n115, if_pos c, if_pos (Classical.byContradiction (fun z => c2 (i_le.mpr z)))]
        · rw [if_pos rfl, lkT]
          show vA T (cb T s.1) = mixv w (vA T (cb T s.1)) s.2
          unfold mixv
          rw [if_neg n115, if_neg c, if_neg (i_le.mp c2)]
        · rw [if_neg (by decide), lkT]
          show s.2 = mixv w (vA T (cb T s.1)) s.2
          unfold mixv
          rw [if_neg n115, if_neg c, if_pos (Classical.byContradiction (fun z => c2 (i_le.mpr z)))]
      · rw [if_neg p]
        refine ok_in (neg1_nge (by omega)) ?_
        have n1 : (-1 : Int32) - nI (cb T s.1) < 0 := neg1_lt (by omega)
        have hx : s.2 = mxo w (lk T s.1) s.2 := by rw [lk_not hsT p]; rfl
        unfold b_X5_combine_155 b_X5_combine_190
        exact ok_ip n1 (ok_ip n1 (ok_in (by decide) (fin _ hx)))
  exact loop L 0 FU M σ rfl (by omega) (by unfold FU; omega) hsL hM hs frM.rf hlen
theorem a_combine (v1 v2 w : Int32) (h : RR σ) : agF (cod3 xI xA xS) (f_X4_combine v1 v2 w σ) (f_X5_combine v1 v2 w) := by
  have hway : ∀ σ1, f_X4_isMixWay w σ1 = some (if mix3 w then 1 else 0) ∧ f_X5_combine v1 v2 w σ1 = b_X5_combine_23 v1 v2 w (if mix3 w then 1 else 0) σ1 := by
    intro σ1
    unfold f_X4_isMixWay f_X5_combine
    by_cases c1 : w = 115
    · rw [if_pos c1, if_pos c1, if_pos (Or.inl c1)]; exact ⟨rfl, rfl⟩
    · rw [if_neg c1, if_neg c1]
      by_cases c2 : w = 103
      · rw [if_pos c2, if_pos c2, if_pos (Or.inr (Or.inl c2))]; exact ⟨rfl, rfl⟩
      · rw [if_neg c2, if_neg c2]
        by_cases c3 : w = 108
        · rw [if_pos c3, if_pos c3, if_pos (Or.inr (Or.inr c3))]; exact ⟨rfl, rfl⟩
        · rw [if_neg c3, if_neg c3, if_neg (fun q => q.elim c1 (fun q => q.elim c2 c3))]; exact ⟨rfl, rfl⟩
  have eg : f_X5_combine v1 v2 w = b_X5_combine_23 v1 v2 w (if mix3 w then 1 else 0) := funext (fun s => (hway s).2)
  rw [eg]
  unfold f_X4_combine b_X5_combine_23
  rcases cl3 v1 with b | ⟨i, hi, rfl⟩
  · rw [map_no b, thn_e]
    refine agF_e (c := 1) (by decide) (by decide) ?_
    rw [mm_no b, rthn_e, if_pos rfl]
    exact m_no (by decide) h (fun _ => if_neg (by decide))
  · rcases cl3 v2 with b | ⟨j, hj, rfl⟩
    · rw [map_at hi, thn_r, chk_true (tb3 hi), map_no b, thn_e]
      refine agF_e (c := 1) (by decide) (by decide) ?_
      rw [mm_at hi, rthn_e, if_neg (by decide), mm_no b, rthn_e, if_pos rfl]
      exact m_no (by decide) h (fun _ => if_neg (by decide))
    · have h' := h
      obtain ⟨A, V, H, D, P, ha, hc, hm⟩ := h'
      have hLM := hm.1 i hi
      have hMM := hm.1 j hj
      have hl := hLM.2.1
      have hl2 := hMM.2.1
      have hbF : (flt (A i) (A j)).length ≤ 60 := by have := flt_cmn (A i) (A j); omega
      rw [map_at hi, thn_r, chk_true (tb3 hi), map_at hj, thn_r, chk_true (tb3 hj), (hway σ).1, rthn_e]
      by_cases hw : mix3 w
      · rw [if_pos hw, if_neg (by decide)]
        by_cases e : i = j
        · rw [if_pos (by rw [e])]
          refine agF_e (c := 2) (by decide) (by decide) ?_
          rw [mm_at hi, rthn_e, if_neg (by decide), mm_at hj, rthn_e, if_neg (by decide), if_neg (by decide), if_pos (by rw [e])]
          exact m_no (by decide) h (fun _ => if_neg (by decide))
        · have ne : ¬ nI i = nI j := fun q => e ((nI_eq (by omega) (by omega)).mp q)
          rw [if_neg ne, c_missing (hc.1 i hi) (hc.1 j hj) (ha.1 j hj), rthn_e, (hc.1 j hj).1, nI_add]
          by_cases cr : (A j).length + (flt (A i) (A j)).length ≤ 60
          · have cr' : nI ((A j).length + (flt (A i) (A j)).length) ≤ (60 : Int32) := nI_le (b := 60) cr (by omega)
            have tl := tkn_len (w := w) (ha.1 j hj) (ha.1 i hi)
            rw [if_pos cr']
            refine ok_w (c_takeIn (w := w) (hc.1 j hj) (isT_m (t3 hj)) (ha.1 j hj) (hc.1 i hi) (isT_m (t3 hi)) (by omega) (by omega)) (fun _ σ1 q1 => agF_r ?_)
            dsimp only at q1
            have c1 := hc.tab hj q1.1 q1.2
            have m1 : MR σ1 A V H D P := hm.hi (q1.2.hi hj)
            have m2 := m1.scr (rf_R 0 σ1)
            rw [mm_at hi, rthn_e, if_neg (by decide), mm_at hj, rthn_e, if_neg (by decide), if_neg (by decide), if_neg ne, m_together (m1.1 i hi) (m1.1 j hj) hi hj (ha.1 j hj), rthn_e, if_pos cr', m_ref0, wthn_e, if_pos rfl]
            refine ok_mono (m_comb85 w (m2.1 i hi) (m2.1 j hj) hi hj e (ha.1 i hi) (ha.1 j hj) (by omega) hw) (fun q hq => ⟨?_, ?_, ?_⟩)
            · rw [hq.2.2.1 44 (by omega) (by omega) (by omega)]; exact rf_20 0 σ1
            · rw [hq.1, q1.1.1]
            · exact ⟨_, V, H, D, P, ha.tab (tkn_srt (ha.1 j hj) _), (c1.low (rf_R 0 σ1).low).low hq.2.2.low, m2.tab hq.2.1 hq.2.2⟩
          · have cr' : ¬ nI ((A j).length + (flt (A i) (A j)).length) ≤ (60 : Int32) := nI_ge (b := (A j).length + (flt (A i) (A j)).length) (a := 60) (by omega) (by omega)
            rw [if_neg cr']
            refine agF_e (c := 3) (by decide) (by decide) ?_
            rw [mm_at hi, rthn_e, if_neg (by decide), mm_at hj, rthn_e, if_neg (by decide), if_neg (by decide), if_neg ne, m_together hLM hMM hi hj (ha.1 j hj), rthn_e, if_neg cr']
            exact m_no (by decide) h (fun _ => if_neg (by decide))
      · rw [if_neg hw, if_pos rfl]
        refine agF_e (c := 2) (by decide) (by decide) ?_
        rw [mm_at hi, rthn_e, if_neg (by decide), mm_at hj, rthn_e, if_neg (by decide), if_pos rfl]
        exact m_no (by decide) h (fun _ => if_neg (by decide))
