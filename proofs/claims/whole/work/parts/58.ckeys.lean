/-! the class over sets of keys -/
theorem kA_drop {L : LM} {j : Nat} {s : Int32 × Int32} {R : LM} (h : L.drop j = s :: R) : j < L.length ∧ kA L j = s.1 ∧ vA L j = s.2 ∧ L.drop (j + 1) = R := by
  have hj : j < L.length := by
    rcases Nat.lt_or_ge j L.length with q | q
    · exact q
    · rw [List.drop_of_length_le q] at h; cases h
  rw [List.drop_eq_getElem_cons hj] at h
  obtain ⟨h1, h2⟩ := List.cons.inj h
  have e : L.getD j (0, 0) = s := by rw [List.getD_eq_getElem?_getD, List.getElem?_eq_getElem hj]; exact h1
  exact ⟨hj, by unfold kA; rw [e], by unfold vA; rw [e], h2⟩
theorem c_addKeys {σ : sM} {h t : Nat} {H : LH} {K : LM} (hH : HB σ h H) (hh : isH h) (hT : TB σ t K) (ht : isT t) (hs : Srt K) (hr : K.length + H.length ≤ 120) : ok (f_X1_addKeysTo h t σ) (fun q => TB q.2 t (adk K H) ∧ frT σ q.2 t) := by
  have hl := hH.2.1
  have loop : ∀ (R : LH) (j n : Nat) (M : LM) (σ1 : sM), H.drop j = R → j ≤ 30 → R.length + 1 ≤ n → TB σ1 t M → Srt M → M.length + R.length ≤ 120 → frT σ σ1 t → ok (b_X1_addKeysTo_2 n h t (nI j) σ1) (fun q => TB q.2 t (adk M R) ∧ frT σ q.2 t) := by
    intro R
    induction R with
    | nil =>
      intro j n M σ1 hd hj30 hn hM _ _ hf
      obtain ⟨n, rfl⟩ : ∃ z, n = z + 1 := ⟨n - 1, by omega⟩
      have hB := hH.frT hf ht hh
      show ok (if (σ1 h 0) ≤ nI j then _ else _) _
      rw [hB.1]
      exact ok_ip (nI_le (drop_nil hd) (by omega)) (ok_ret ⟨hM, hf⟩)
    | cons s r ih =>
      intro j n M σ1 hd hj30 hn hM hsM hrm hf
      obtain ⟨n, rfl⟩ : ∃ z, n = z + 1 := ⟨n - 1, by omega⟩
      obtain ⟨hj, hs1, hd1⟩ := hA_drop hd
      have hB := hH.frT hf ht hh
      have hc1 : (s :: r : LH).length = r.length + 1 := rfl
      obtain ⟨k1, k2, k3⟩ := hB.2.2 j hj
      rw [hs1] at k2
      have hi := ins_len hsM s.2.1 0
      show ok (if (σ1 h 0) ≤ nI j then _ else _) _
      rw [hB.1]
      refine ok_in (nI_ge hj (by omega)) ?_
      refine ok_chk (inb_nI (by omega) (by omega)) ?_
      rw [nI_clamp (by omega), k2]
      refine ok_w (tb_set hM hsM s.2.1 0 (Or.inr (by omega))) (fun x σ2 hx => ?_)
      rw [nI_1]
      exact ih (j + 1) n _ σ2 hd1 (by omega) (by omega) hx.2.1 (ins_srt hsM _ _) (by omega) (hf.tr hx.2.2)
  exact loop H 0 FU K σ rfl (by omega) (by unfold FU; omega) hT hs hr frT.rf
theorem c_countKeys {σ : sM} {h1 h2 : Nat} {A B : LH} (hA : HB σ h1 A) (i1 : isH h1) (hB : HB σ h2 B) (i2 : isH h2) : ok (f_X0_countKeys h1 h2 σ) (fun q => q.1 = nI (adk (adk [] A) B).length ∧ TB q.2 15 (adk (adk [] A) B) ∧ frT σ q.2 15) := by
  have l1 := hA.2.1
  have l2 := hB.2.1
  have iT : isT 15 := by unfold isT; omega
  unfold f_X0_countKeys
  refine ok_stl (fun σ1 e1 => ?_)
  have f1 : frT σ σ1 15 := fun k a b c => by rw [e1, up_n a]
  have t1 : TB σ1 15 [] := ⟨by rw [e1, up_s, upd_s]; rfl, by simp, fun j hj => absurd hj (Nat.not_lt_zero _)⟩
  refine ok_w (c_addKeys (hA.frT f1 iT i1) i1 t1 iT srt_nil (by simp only [List.length_nil]; omega)) (fun _ σ2 q2 => ?_)
  have f2 := f1.tr q2.2
  have hle := adk_len srt_nil A
  refine ok_w (c_addKeys (hB.frT f2 iT i2) i2 q2.1 iT (adk_srt srt_nil A) (by simp only [List.length_nil] at hle; omega)) (fun _ σ3 q3 => ?_)
  exact ok_ret ⟨q3.1.1, q3.1, f2.tr q3.2⟩
theorem z_nil : Zv [] := fun x hx => by cases hx
theorem adk_twice (A : LH) : adk (adk [] A) A = adk [] A := by
  refine z_ext (adk_srt (adk_srt srt_nil A) A) (adk_srt srt_nil A) (adk_z (adk_z z_nil A) A) (adk_z z_nil A) (fun k => ?_)
  rw [lk_adk (adk_srt srt_nil A) (adk_z z_nil A)]
  constructor
  · exact fun h => h.1
  · exact fun h => ⟨h, ((lk_adk srt_nil z_nil A k).mp h).2⟩
/-- how many keys two histories have together -/
def com (A B : LH) : Nat := (cmn (adk [] A) (adk [] B)).length
theorem com_eq (A B : LH) : (adk [] A).length + (adk [] B).length - (adk (adk [] A) B).length = com A B := by
  have a := adk_cnt (adk_srt srt_nil A) (adk_z z_nil A) B
  have b := flt_cmn (adk [] A) (adk [] B)
  unfold com
  omega
theorem com_le (A B : LH) : (adk (adk [] A) B).length ≤ (adk [] A).length + (adk [] B).length := by
  have a := adk_cnt (adk_srt srt_nil A) (adk_z z_nil A) B
  have b := flt_cmn (adk [] A) (adk [] B)
  omega
theorem c_common {σ : sM} {h1 h2 : Nat} {A B : LH} (hA : HB σ h1 A) (i1 : isH h1) (hB : HB σ h2 B) (i2 : isH h2) : ok (f_X0_countCommonKeys h1 h2 σ) (fun q => q.1 = nI (com A B) ∧ frT σ q.2 15) := by
  have iT : isT 15 := by unfold isT; omega
  unfold f_X0_countCommonKeys
  refine ok_w (c_countKeys hA i1 hA i1) (fun x1 σ1 q1 => ?_)
  have x1e : x1 = _ := q1.1
  have f1 : frT σ σ1 15 := q1.2.2
  refine ok_w (c_countKeys (hB.frT f1 iT i2) i2 (hB.frT f1 iT i2) i2) (fun x2 σ2 q2 => ?_)
  have x2e : x2 = _ := q2.1
  have f2 : frT σ σ2 15 := f1.tr q2.2.2
  refine ok_w (c_countKeys (hA.frT f2 iT i1) i1 (hB.frT f2 iT i2) i2) (fun x3 σ3 q3 => ?_)
  have x3e : x3 = _ := q3.1
  refine ok_ret ⟨?_, f2.tr q3.2.2⟩
  show (x1 + x2) - x3 = _
  rw [x1e, x2e, x3e, adk_twice, adk_twice, nI_add, pk_sub (com_le A B), com_eq]
theorem c_missing {σ : sM} {t u : Nat} {A B : LM} (hA : TB σ t A) (hB : TB σ u B) (hsB : Srt B) : f_X2_countMissingIn t u σ = some (nI (flt A B).length) := by
  have hl := hA.2.1
  have hlB := hB.2.1
  have loop : ∀ (R : LM) (j n c : Nat), A.drop j = R → j ≤ 120 → R.length + 1 ≤ n → b_X2_countMissingIn_4 n t u (nI c) (nI j) σ = some (nI (c + (flt R B).length)) := by
    intro R
    induction R with
    | nil =>
      intro j n c hd hj hn
      obtain ⟨n, rfl⟩ : ∃ z, n = z + 1 := ⟨n - 1, by omega⟩
      show (if (σ t 2) ≤ nI j then _ else _) = _
      rw [hA.1, if_pos (nI_le (List.drop_eq_nil_iff.mp hd) (by omega))]
      rfl
    | cons s r ih =>
      intro j n c hd hj hn
      obtain ⟨n, rfl⟩ : ∃ z, n = z + 1 := ⟨n - 1, by omega⟩
      have hc1 : (s :: r : LM).length = r.length + 1 := rfl
      obtain ⟨hj2, k1, _, hd1⟩ := kA_drop hd
      show (if (σ t 2) ≤ nI j then _ else _) = _
      rw [hA.1, if_neg (nI_ge hj2 (by omega)), chk_true (inb_nI (by omega) (by omega)), nI_clamp (by omega), (hA.2.2 j hj2).1, k1, tb_placeOf hB hsB, rthn_e]
      have hcb := cb_le B s.1
      unfold flt
      rw [List.filter_cons]
      by_cases p : hasP B s.1
      · rw [if_pos p, if_pos (nI_ge0 (by omega)), nI_1, ih (j + 1) n c hd1 (by omega) (by omega), lk_has hsB p]
        rfl
      · rw [if_neg p, if_neg (by decide), nI_1, nI_1, ih (j + 1) n (c + 1) hd1 (by omega) (by omega), lk_not hsB p]
        show some (nI (c + 1 + (r.filter _).length)) = some (nI (c + (s :: r.filter _).length))
        rw [List.length_cons, show c + 1 + (r.filter (fun a => (lk B a.1).isNone)).length = c + ((r.filter (fun a => (lk B a.1).isNone)).length + 1) from by omega]
  have := loop A 0 FU 0 rfl (by omega) (by unfold FU; omega)
  rw [Nat.zero_add] at this
  exact this
theorem c_hasRoom {σ : sM} {t h1 h2 : Nat} {L : LM} {A B : LH} (hT : TB σ t L) (ht : isT t) (hne : t ≠ 15) (hs : Srt L) (hA : HB σ h1 A) (i1 : isH h1) (hB : HB σ h2 B) (i2 : isH h2) : ok (f_X0_hasRoom t h1 h2 σ) (fun q => q.1 = (if L.length + (flt (adk (adk [] A) B) L).length ≤ 60 then 1 else 0) ∧ frT σ q.2 15) := by
  have iT : isT 15 := by unfold isT; omega
  have hl := hT.2.1
  unfold f_X0_hasRoom
  refine ok_w (c_countKeys hA i1 hB i2) (fun x1 σ1 q1 => ?_)
  have hT1 : TB σ1 t L := hT.fr q1.2.2 iT ht hne
  refine ok_r (c_missing q1.2.1 hT1 hs) ?_
  rw [hT1.1, nI_add]
  have hb : (flt (adk (adk [] A) B) L).length ≤ 120 := by
    have := flt_cmn (adk (adk [] A) B) L
    have := q1.2.1.2.1
    omega
  refine ok_if (fun c => ok_ret ⟨?_, q1.2.2⟩) (fun c => ok_ret ⟨?_, q1.2.2⟩)
  · have c := (nI_ltI (a := 60) (by omega) (by omega)).mp c
    show (0 : Int32) = _
    rw [if_neg (by omega)]
  · have c : ¬ 60 < _ := fun z => c ((nI_ltI (a := 60) (by omega) (by omega)).mpr z)
    show (1 : Int32) = _
    rw [if_pos (by omega)]
/-! a step is put behind a history of the class -/
def frH (σ σ' : sM) (h : Nat) : Prop := ∀ k, k ≠ h → k ≠ h + 1 → k ≠ h + 2 → k ≠ h + 3 → σ' k = σ k
theorem frH.rf {σ : sM} {h : Nat} : frH σ σ h := fun _ _ _ _ _ => rfl
theorem frH.tr {σ σ1 σ2 : sM} {h : Nat} (a : frH σ σ1 h) (b : frH σ1 σ2 h) : frH σ σ2 h := fun k x1 x2 x3 x4 => (b k x1 x2 x3 x4).trans (a k x1 x2 x3 x4)
theorem HB.frH {σ σ' : sM} {h u : Nat} {H : LH} (hH : HB σ h H) (hf : frH σ σ' u) (hh : isH h) (hu : isH u) (hne : h ≠ u) : HB σ' h H := by
  unfold isH at hh hu
  refine hH.same (hf _ ?_ ?_ ?_ ?_) (hf _ ?_ ?_ ?_ ?_) (hf _ ?_ ?_ ?_ ?_) (hf _ ?_ ?_ ?_ ?_) <;> omega
theorem TB.frH {σ σ' : sM} {t u : Nat} {L : LM} (hT : TB σ t L) (hf : frH σ σ' u) (ht : isT t) (hu : isH u) : TB σ' t L := by
  unfold isT at ht
  unfold isH at hu
  have e0 : σ' t = σ t := hf _ (by omega) (by omega) (by omega) (by omega)
  have e1 : σ' (t + 1) = σ (t + 1) := hf _ (by omega) (by omega) (by omega) (by omega)
  have e2 : σ' (t + 2) = σ (t + 2) := hf _ (by omega) (by omega) (by omega) (by omega)
  exact ⟨by rw [e0]; exact hT.1, hT.2.1, fun j hj => by rw [e1, e2]; exact hT.2.2 j hj⟩
theorem hA_app {H : LH} {s : Int32 × (Int32 × Int32)} {j : Nat} (hj : j < (H ++ [s]).length) : hA (H ++ [s]) j = if j = H.length then s else hA H j := by
  unfold hA
  rw [List.getD_eq_getElem?_getD, List.getD_eq_getElem?_getD]
  rw [List.length_append] at hj
  by_cases c : j = H.length
  · rw [if_pos c, List.getElem?_append_right (by omega), c, Nat.sub_self]; rfl
  · have : j < H.length := by simp only [List.length_cons, List.length_nil] at hj; omega
    rw [if_neg c, List.getElem?_append_left this]
theorem c_add {σ : sM} {h : Nat} {H : LH} (hH : HB σ h H) (hlt : H.length < 30) (a b c : Int32) : ok (f_X1_add h a b c σ) (fun q => HB q.2 h (H ++ [(vp_nar .char a, (b, c))]) ∧ frH σ q.2 h) := by
  unfold f_X1_add
  rw [hH.1]
  refine ok_ip (nI_lt (b := 30) hlt (by omega)) ?_
  rw [nI_clamp (by omega)]
  refine ok_chk (inb_nI (by omega) (by omega)) (ok_stl (fun σ1 e1 => ?_))
  have q1 : σ1 h = σ h := by rw [e1, up_n (by omega)]
  rw [q1, hH.1, nI_clamp (by omega)]
  refine ok_chk (inb_nI (by omega) (by omega)) (ok_stl (fun σ2 e2 => ?_))
  have q2 : σ2 h = σ h := by rw [e2, up_n (by omega), q1]
  rw [q2, hH.1, nI_clamp (by omega)]
  refine ok_chk (inb_nI (by omega) (by omega)) (ok_stl (fun σ3 e3 => ?_))
  have q3 : σ3 h = σ h := by rw [e3, up_n (by omega), q2]
  rw [q3, hH.1]
  refine ok_stl (fun σ4 e4 => ok_ret ⟨⟨?_, ?_, fun j hj => ?_⟩, fun k x1 x2 x3 x4 => ?_⟩)
  · show σ4 h 0 = _
    rw [e4, up_s, upd_s, nI_1, List.length_append]; rfl
  · rw [List.length_append]; exact hlt
  · rw [hA_app hj]
    rw [List.length_append] at hj
    simp only [List.length_cons, List.length_nil] at hj
    show σ4 (h + 1) j = _ ∧ σ4 (h + 2) j = _ ∧ σ4 (h + 3) j = _
    have r1 : σ4 (h + 1) = upd (σ (h + 1)) H.length (vp_nar .char a) := by rw [e4, up_n (by omega), e3, up_n (by omega), e2, up_n (by omega), e1, up_s]
    have r2 : σ4 (h + 2) = upd (σ (h + 2)) H.length b := by rw [e4, up_n (by omega), e3, up_n (by omega), e2, up_s, e1, up_n (by omega)]
    have r3 : σ4 (h + 3) = upd (σ (h + 3)) H.length c := by rw [e4, up_n (by omega), e3, up_s, e2, up_n (by omega), e1, up_n (by omega)]
    rw [r1, r2, r3]
    by_cases e : j = H.length
    · rw [if_pos e, e, upd_s, upd_s, upd_s]; exact ⟨rfl, rfl, rfl⟩
    · rw [if_neg e, upd_n e, upd_n e, upd_n e]; exact hH.2.2 j (by omega)
  · show σ4 k = σ k
    rw [e4, up_n x1, e3, up_n x4, e2, up_n x3, e1, up_n x2]
/-- the steps that turn a history round -/
def opp (L : LM) : LM → LH
  | [] => []
  | a :: r => (match lk L a.1 with | some v => (112, (a.1, v)) | none => (114, (a.1, 0))) :: opp L r
theorem opp_len (L K : LM) : (opp L K).length = K.length := by
  induction K with
  | nil => rfl
  | cons a r ih => show (opp L r).length + 1 = r.length + 1; rw [ih]
theorem c_turn {σ : sM} {h u t : Nat} {A : LH} {L : LM} (hA : HB σ h A) (i1 : isH h) (i3 : isH u) (hT : TB σ t L) (ht : isT t) (hne : t ≠ 15) (hs : Srt L) :
    ok (f_X0_turnRound h t u σ) (fun q => HB q.2 u (opp L (adk [] A)) ∧ ∀ k, k ≠ 15 → k ≠ 16 → k ≠ 17 → k ≠ u → k ≠ u + 1 → k ≠ u + 2 → k ≠ u + 3 → q.2 k = σ k) := by
  have l1 := hA.2.1
  have hl := hT.2.1
  have iT : isT 15 := by unfold isT; omega
  have iH := i3
  unfold isH at iH
  unfold f_X0_turnRound
  refine ok_stl (fun σ1 e1 => ?_)
  have f1 : frT σ σ1 15 := fun k a b c => by rw [e1, up_n a]
  have t1 : TB σ1 15 [] := ⟨by rw [e1, up_s, upd_s]; rfl, by simp, fun j hj => absurd hj (Nat.not_lt_zero _)⟩
  refine ok_w (c_addKeys (hA.frT f1 iT i1) i1 t1 iT srt_nil (by simp only [List.length_nil]; omega)) (fun _ σ2 q2 => ?_)
  have f2 : frT σ σ2 15 := f1.tr q2.2
  have hT2 : TB σ2 t L := hT.fr f2 iT ht hne
  have hK : (adk [] A).length ≤ 30 := by have := adk_len srt_nil A; simp only [List.length_nil] at this; omega
  refine ok_stl (fun σ3 e3 => ?_)
  have g3 : frH σ2 σ3 u := fun k a b c d => by rw [e3, up_n a]
  have h3 : HB σ3 u [] := ⟨by rw [e3, up_s, upd_s]; rfl, by simp, fun j hj => absurd hj (Nat.not_lt_zero _)⟩
  have loop : ∀ (R : LM) (j n : Nat) (M : LH) (σ4 : sM), (adk [] A).drop j = R → j ≤ 30 → R.length + 1 ≤ n → M.length + R.length ≤ 30 → HB σ4 u M → frH σ2 σ4 u → ok (b_X0_turnRound_24 n t u (nI j) σ4) (fun q => HB q.2 u (M ++ opp L R) ∧ frH σ2 q.2 u) := by
    intro R
    induction R with
    | nil =>
      intro j n M σ4 hd hj30 hn hl2 hM hf
      obtain ⟨n, rfl⟩ : ∃ z, n = z + 1 := ⟨n - 1, by omega⟩
      have hB := q2.1.frH hf iT i3
      show ok (if (σ4 15 2) ≤ nI j then _ else _) _
      rw [hB.1]
      refine ok_ip (nI_le (List.drop_eq_nil_iff.mp hd) (by omega)) (ok_ret ⟨?_, hf⟩)
      rw [show opp L [] = [] from rfl, List.append_nil]; exact hM
    | cons s r ih =>
      intro j n M σ4 hd hj30 hn hl2 hM hf
      obtain ⟨n, rfl⟩ : ∃ z, n = z + 1 := ⟨n - 1, by omega⟩
      obtain ⟨hj2, k1, _, hd1⟩ := kA_drop hd
      have hc1 : (s :: r : LM).length = r.length + 1 := rfl
      have hB := q2.1.frH hf iT i3
      have hL := hT2.frH hf ht i3
      have hcb := cb_le L s.1
      show ok (if (σ4 15 2) ≤ nI j then _ else _) _
      rw [hB.1]
      refine ok_in (nI_ge hj2 (by omega)) ?_
      refine ok_chk (inb_nI (by omega) (by omega)) ?_
      rw [nI_clamp (by omega), (hB.2.2 j hj2).1, k1]
      refine ok_r (tb_placeOf hL hs s.1) ?_
      by_cases p : hasP L s.1
      · rw [if_pos p]
        have hp1 := p.1
        refine ok_ip (nI_ge0 (by omega)) ?_
        refine ok_chk (inb_nI (by omega) (by omega)) ?_
        rw [nI_clamp (by omega), (hL.2.2 _ p.1).2]
        refine ok_w (c_add hM (by omega) 112 s.1 (vA L (cb L s.1))) (fun _ σ5 q5 => ?_)
        rw [nI_1]
        have e : opp L (s :: r) = (112, (s.1, vA L (cb L s.1))) :: opp L r := by show (match lk L s.1 with | some v => _ | none => _) :: opp L r = _; rw [lk_has hs p]
        rw [e, List.append_cons]
        exact ih (j + 1) n (M ++ [(vp_nar .char 112, (s.1, vA L (cb L s.1)))]) σ5 hd1 (by omega) (by omega) (by rw [List.length_append, List.length_singleton]; omega) q5.1 (hf.tr q5.2)
      · rw [if_neg p]
        refine ok_in (by decide) ?_
        refine ok_w (c_add hM (by omega) 114 s.1 0) (fun _ σ5 q5 => ?_)
        rw [nI_1]
        have e : opp L (s :: r) = (114, (s.1, 0)) :: opp L r := by show (match lk L s.1 with | some v => _ | none => _) :: opp L r = _; rw [lk_not hs p]
        rw [e, List.append_cons]
        exact ih (j + 1) n (M ++ [(vp_nar .char 114, (s.1, 0))]) σ5 hd1 (by omega) (by omega) (by rw [List.length_append, List.length_singleton]; omega) q5.1 (hf.tr q5.2)
  refine ok_mono (loop (adk [] A) 0 FU [] σ3 rfl (by omega) (by unfold FU; omega) (by simp only [List.length_nil]; omega) h3 g3) (fun q hq => ⟨hq.1, fun k a b c d e f g => ?_⟩)
  rw [hq.2 k d e f g, f2 k a b c]
