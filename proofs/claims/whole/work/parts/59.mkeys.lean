/-! the reference over sets of keys -/
def SB (σ : sM) (S : LM) : Prop := σ 44 15 = nI S.length ∧ S.length ≤ 60 ∧ ∀ j, j < S.length → σ 59 j = kA S j
def frS (σ σ' : sM) : Prop := (∀ k, k ≠ 44 → k ≠ 59 → σ' k = σ k) ∧ ∀ g, g ≠ 15 → σ' 44 g = σ 44 g
theorem frS.rf {σ : sM} : frS σ σ := ⟨fun _ _ _ => rfl, fun _ _ => rfl⟩
theorem frS.tr {σ σ1 σ2 : sM} (a : frS σ σ1) (b : frS σ1 σ2) : frS σ σ2 := ⟨fun k x y => (b.1 k x y).trans (a.1 k x y), fun g x => (b.2 g x).trans (a.2 g x)⟩
theorem MB.frS {σ σ' : sM} {i : Nat} {L : LM} (h : MB σ i L) (hf : frS σ σ') : MB σ' i L := h.same (hf.1 _ (by omega) (by omega)) (hf.1 _ (by omega) (by omega)) (hf.1 _ (by omega) (by omega))
theorem HM.frS {σ σ' : sM} {h : Nat} {H : LH} (hH : HM σ h H) (hf : frS σ σ') : HM σ' h H := hH.same (hf.1 _ (by omega) (by omega)) (hf.1 _ (by omega) (by omega)) (hf.1 _ (by omega) (by omega)) (hf.1 _ (by omega) (by omega))
def TS (σ : sM) (v : Int32) (T : LM) : Prop := (v < 0 ∧ T = []) ∨ ∃ i, i < 3 ∧ v = nI i ∧ MB σ i T ∧ Srt T
theorem TS.frS {σ σ' : sM} {v : Int32} {T : LM} (h : TS σ v T) (hf : frS σ σ') : TS σ' v T := by
  rcases h with a | ⟨i, a, b, c, d⟩
  · exact Or.inl a
  · exact Or.inr ⟨i, a, b, c.frS hf, d⟩
theorem g_28 {σ : sM} {S : LM} (hS : SB σ S) (hs : Srt S) (K2 : Int32 → Int32 → Int32 → sM → Option (Unit × sM)) (v1 v2 v3 k : Int32) : b_X5_gathers_28 K2 FU v1 v2 v3 k 0 σ = b_X5_gathers_55 K2 v1 v2 v3 k (nI (cb S k)) σ := by
  have hl := hS.2.1
  have hc := cb_le S k
  have loop : ∀ (d j n : Nat), cb S k = j + d → d + 1 ≤ n → b_X5_gathers_28 K2 n v1 v2 v3 k (nI j) σ = b_X5_gathers_55 K2 v1 v2 v3 k (nI (cb S k)) σ := by
    intro d
    induction d with
    | zero =>
      intro j n hj hn
      obtain ⟨n, rfl⟩ : ∃ z, n = z + 1 := ⟨n - 1, by omega⟩
      rw [Nat.add_zero] at hj
      show (if (σ 44 15) ≤ nI j then _ else _) = _
      rw [hS.1, hj]
      by_cases q : S.length ≤ j
      · rw [if_pos (nI_le q (by omega))]
      · rw [if_neg (nI_ge (by omega) (by omega)), chk_true (inb_nI (by omega) (by omega)), nI_clamp (by omega), hS.2.2 j (by omega), if_pos (i_le.mpr (cb_ge hs (by omega) (by omega)))]
    | succ d ih =>
      intro j n hj hn
      obtain ⟨n, rfl⟩ : ∃ z, n = z + 1 := ⟨n - 1, by omega⟩
      show (if (σ 44 15) ≤ nI j then _ else _) = _
      rw [hS.1, if_neg (nI_ge (by omega) (by omega)), chk_true (inb_nI (by omega) (by omega)), nI_clamp (by omega), hS.2.2 j (by omega), if_neg (fun h => i_le.mp h (cb_lt (by omega))), nI_1]
      exact ih (j + 1) n (by omega) (by omega)
  exact loop (cb S k) 0 FU (by omega) (by unfold FU; omega)
theorem g_55 {σ : sM} {S : LM} (hS : SB σ S) (K2 : Int32 → Int32 → Int32 → sM → Option (Unit × sM)) (v1 v2 v3 k : Int32) : b_X5_gathers_55 K2 v1 v2 v3 k (nI (cb S k)) σ = b_X5_gathers_81 K2 v1 v2 v3 k (nI (cb S k)) (if hasP S k then 1 else 0) σ := by
  have hl := hS.2.1
  have hc := cb_le S k
  unfold b_X5_gathers_55
  rw [hS.1]
  by_cases q : S.length ≤ cb S k
  · rw [if_pos (nI_le q (by omega)), if_neg (c := hasP S k) (fun h => by have := h.1; omega)]
  · rw [if_neg (nI_ge (by omega) (by omega)), chk_true (inb_nI (by omega) (by omega)), nI_clamp (by omega), hS.2.2 _ (by omega)]
    by_cases c : kA S (cb S k) = k
    · rw [if_pos c, if_pos (c := hasP S k) ⟨by omega, c⟩]
    · rw [if_neg c, if_neg (c := hasP S k) (fun h => c h.2)]
theorem g_108 {σ : sM} {S : LM} (hS : SB σ S) (hs : Srt S) {k : Int32} (hn : ¬ hasP S k) (hlt : S.length < 60) {K2 : Int32 → Int32 → Int32 → sM → Option (Unit × sM)} {v1 v2 v3 : Int32} {P : Unit × sM → Prop} (kk : ∀ σ', SB σ' (ins S k 0) → frS σ σ' → ok (K2 v1 v2 (v3 + 1) σ') P) : ok (b_X5_gathers_108 K2 FU v1 v2 v3 k (nI (cb S k)) (σ 44 15) σ) P := by
  have hc := cb_le S k
  have loop : ∀ (d n : Nat) (σ1 : sM), cb S k + d ≤ S.length → d + 1 ≤ n → frS σ σ1 → σ1 44 15 = nI S.length → (∀ j, j ≤ S.length → σ1 59 j = (if cb S k + d < j then σ 59 (j - 1) else σ 59 j)) → ok (b_X5_gathers_108 K2 n v1 v2 v3 k (nI (cb S k)) (nI (cb S k + d)) σ1) P := by
    intro d
    induction d with
    | zero =>
      intro n σ1 h1 hn2 hf h7 hj
      obtain ⟨n, rfl⟩ : ∃ z, n = z + 1 := ⟨n - 1, by omega⟩
      show ok (if nI (cb S k + 0) ≤ nI (cb S k) then _ else _) _
      refine ok_ip (nI_le (by omega) (by omega)) ?_
      refine ok_chk (inb_nI (by omega) (by omega)) ?_
      rw [nI_clamp (by omega)]
      refine ok_stl (fun σ2 e2 => ok_stl (fun σ3 e3 => ?_))
      have hlen := ins_new_len hs hn 0
      have r4 : σ3 44 15 = nI (S.length + 1) := by rw [e3, up_s, upd_s, e2, up_n (by omega), h7, nI_1]
      have r5 : σ3 59 = upd (σ1 59) (cb S k) k := by rw [e3, up_n (by omega), e2, up_s]
      refine kk σ3 ⟨by rw [r4, hlen], by omega, fun j hj2 => ?_⟩ (hf.tr ⟨fun z a b => ?_, fun g a => ?_⟩)
      · rw [hlen] at hj2
        rw [(ins_new_k hs hn 0 j).1, r5]
        by_cases c : j < cb S k
        · rw [if_pos c, upd_n (by omega), hj j (by omega), if_neg (by omega)]
          exact hS.2.2 j (by omega)
        · rw [if_neg c]
          by_cases c2 : j = cb S k
          · rw [if_pos c2, c2, upd_s]
          · rw [if_neg c2, upd_n (by omega), hj j (by omega), if_pos (by omega)]
            exact hS.2.2 _ (by omega)
      · rw [e3, up_n a, e2, up_n b]
      · rw [e3, up_s, upd_n a, e2, up_n (by omega)]
    | succ d ih =>
      intro n σ1 h1 hn2 hf h7 hj
      obtain ⟨n, rfl⟩ : ∃ z, n = z + 1 := ⟨n - 1, by omega⟩
      show ok (if nI (cb S k + (d + 1)) ≤ nI (cb S k) then _ else _) _
      refine ok_in (nI_ge (by omega) (by omega)) ?_
      have em : nI (cb S k + (d + 1)) - 1 = nI (cb S k + d) := by rw [one_nI, pk_sub (by omega)]; congr 1
      rw [em, nI_clamp (n := cb S k + (d + 1)) (by omega), nI_clamp (n := cb S k + d) (by omega)]
      refine ok_chk (inb_nI (by omega) (by omega)) (ok_chk (inb_nI (by omega) (by omega)) (ok_stl (fun σ2 e2 => ?_)))
      have e6 : nI (cb S k + (d + 1)) + (-1) = nI (cb S k + d) := by rw [show cb S k + (d + 1) = (cb S k + d) + 1 from by omega, pk_m1]
      rw [e6]
      refine ih n σ2 (by omega) (by omega) (hf.tr ⟨fun z a b => by rw [e2, up_n b], fun g a => by rw [e2, up_n (by omega)]⟩) (by rw [e2, up_n (by omega)]; exact h7) (fun j hj2 => ?_)
      rw [e2, up_s]
      by_cases c : j = cb S k + (d + 1)
      · have g1 : ¬ cb S k + (d + 1) < cb S k + d := by omega
        have g2 : cb S k + d < cb S k + (d + 1) := by omega
        rw [c, upd_s, hj (cb S k + d) (by omega), if_neg (by omega), if_pos g2, show cb S k + (d + 1) - 1 = cb S k + d from by omega]
      · rw [upd_n c, hj j hj2]
        by_cases c2 : cb S k + (d + 1) < j
        · rw [if_pos c2, if_pos (by omega)]
        · rw [if_neg c2, if_neg (by omega)]
  rw [hS.1, show nI S.length = nI (cb S k + (S.length - cb S k)) from by rw [show cb S k + (S.length - cb S k) = S.length from by omega]]
  exact loop (S.length - cb S k) FU σ (by omega) (by unfold FU; omega) frS.rf hS.1 (fun j hj => by rw [if_neg (by omega)])
theorem m_gathers {σ : sM} {h : Nat} {H : LH} {v : Int32} {T S : LM} (hH : HM σ h H) (hh : h < 3) (hT : TS σ v T) (hS : SB σ S) (hs : Srt S) (zS : Zv S) (hr : S.length + H.length ≤ 60) : ok (f_X5_gathers (nI h) v σ) (fun q => SB q.2 (gth T S H) ∧ frS σ q.2) := by
  have hl := hH.2.1
  have hin : inb (nI h) 3 = true := inb_nI hh (by omega)
  have hci : (nI h).toNatClampNeg = h := nI_clamp (by omega)
  have loop : ∀ (R : LH) (j n : Nat) (M : LM) (σ1 : sM), H.drop j = R → j ≤ 30 → R.length + 1 ≤ n → SB σ1 M → Srt M → Zv M → M.length + R.length ≤ 60 → frS σ σ1 → ok (b_X5_gathers_2 n (nI h) v (nI j) σ1) (fun q => SB q.2 (gth T M R) ∧ frS σ q.2) := by
    intro R
    induction R with
    | nil =>
      intro j n M σ1 hd hj30 hn hM _ _ _ hf
      obtain ⟨n, rfl⟩ : ∃ z, n = z + 1 := ⟨n - 1, by omega⟩
      have hB := hH.frS hf
      show ok (chk (inb (nI h) 3) (if (σ1 58 (nI h).toNatClampNeg) ≤ nI j then _ else _)) _
      refine ok_chk hin ?_
      rw [hci, hB.1]
      exact ok_ip (nI_le (drop_nil hd) (by omega)) (ok_ret ⟨hM, hf⟩)
    | cons s r ih =>
      intro j n M σ1 hd hj30 hn hM hsM zM hrm hf
      obtain ⟨n, rfl⟩ : ∃ z, n = z + 1 := ⟨n - 1, by omega⟩
      obtain ⟨hj, hs1, hd1⟩ := hA_drop hd
      have hB := hH.frS hf
      have hT1 := hT.frS hf
      have hc1 : (s :: r : LH).length = r.length + 1 := rfl
      have k2 := (hB.2.2 j hj).2.1
      rw [hs1] at k2
      have hi := ins_len hsM s.2.1 0
      show ok (chk (inb (nI h) 3) (if (σ1 58 (nI h).toNatClampNeg) ≤ nI j then _ else _)) _
      refine ok_chk hin ?_
      rw [hci, hB.1]
      refine ok_in (nI_ge hj (by omega)) ?_
      rw [ix30]
      refine ok_chk (inb_nI (by omega) (by omega)) ?_
      rw [nI_clamp (by omega), k2, g_28 hM hsM, g_55 hM]
      show ok _ (fun q : Unit × sM => SB q.2 (gth T (if lk T s.2.1 = none then ins M s.2.1 0 else M) r) ∧ frS σ q.2)
      have stay : gth T (if lk T s.2.1 = none then ins M s.2.1 0 else M) r = gth T M r → ok (b_X5_gathers_2 n (nI h) v (nI j + 1) σ1) (fun q : Unit × sM => SB q.2 (gth T (if lk T s.2.1 = none then ins M s.2.1 0 else M) r) ∧ frS σ q.2) := by
        intro e
        rw [e, nI_1]
        exact ih (j + 1) n M σ1 hd1 (by omega) (by omega) hM hsM zM (by omega) hf
      have grow : lk T s.2.1 = none → ¬ hasP M s.2.1 → ok (b_X5_gathers_108 (b_X5_gathers_2 n) FU (nI h) v (nI j) s.2.1 (nI (cb M s.2.1)) (σ1 44 15) σ1) (fun q : Unit × sM => SB q.2 (gth T (if lk T s.2.1 = none then ins M s.2.1 0 else M) r) ∧ frS σ q.2) := by
        intro e hn2
        rw [if_pos e]
        refine g_108 hM hsM hn2 (by omega) (fun σ' hS' hf' => ?_)
        rw [nI_1]
        exact ih (j + 1) n _ σ' hd1 (by omega) (by omega) hS' (ins_srt hsM _ _) (zM.ins _) (by omega) (hf.tr hf')
      unfold b_X5_gathers_81
      by_cases p : hasP M s.2.1
      · rw [if_pos p]
        refine ok_in (by decide) (stay ?_)
        congr 1
        by_cases c : lk T s.2.1 = none
        · rw [if_pos c, ins_same hsM zM (by rw [lk_has hsM p]; intro c; cases c)]
        · rw [if_neg c]
      · rw [if_neg p]
        refine ok_ip rfl ?_
        rcases hT1 with ⟨a, b⟩ | ⟨i, a, b, c, d⟩
        · refine ok_ip a (grow (by rw [b]; rfl) p)
        · rw [b] at grow stay ⊢
          refine ok_in (nI_nlt0 (by omega)) ?_
          refine ok_r (m_has c d a s.2.1) ?_
          by_cases p2 : hasP T s.2.1
          · rw [if_pos p2]
            refine ok_in (by decide) (stay ?_)
            rw [if_neg (by rw [lk_has d p2]; intro c; cases c)]
          · rw [if_neg p2]
            exact ok_ip rfl (grow (lk_not d p2) p)
  exact loop H 0 FU S σ rfl (by omega) (by unfold FU; omega) hS hs zS hr frS.rf
theorem sb_nil {σ : sM} : SB (va_up σ 44 (upd (σ 44) 15 0)) [] ∧ frS σ (va_up σ 44 (upd (σ 44) 15 0)) :=
  ⟨⟨by rw [up_s, upd_s]; rfl, by simp, fun j hj => absurd hj (Nat.not_lt_zero _)⟩, fun k a b => by rw [up_n a], fun g a => by rw [up_s, upd_n a]⟩
theorem m_tooMuch {σ : sM} {h1 h2 i : Nat} {A B : LH} {L : LM} (hA : HM σ h1 A) (i1 : h1 < 3) (hB : HM σ h2 B) (i2 : h2 < 3) (hM : MB σ i L) (hi : i < 3) (hs : Srt L) : ok (f_X5_isTooMuch (nI h1) (nI h2) (nI i) σ) (fun q => q.1 = (if L.length + (flt (adk (adk [] A) B) L).length ≤ 60 then 0 else 1) ∧ frS σ q.2) := by
  have lA := hA.2.1
  have lB := hB.2.1
  have lL := hM.2.1
  have g1 : gth L [] A = flt (adk [] A) L := gth_flt (T := L) srt_nil z_nil A
  have g2 : gth L (flt (adk [] A) L) B = flt (adk (adk [] A) B) L := gth_flt (adk_srt srt_nil A) (adk_z z_nil A) B
  have b1 : (flt (adk [] A) L).length ≤ A.length := by
    have := flt_cmn (adk [] A) L
    have := adk_len srt_nil A
    simp only [List.length_nil] at this
    omega
  unfold f_X5_isTooMuch
  refine ok_stl (fun σ1 e1 => ?_)
  have n1 : SB σ1 [] ∧ frS σ σ1 := by rw [e1]; exact sb_nil
  refine ok_w (m_gathers (hA.frS n1.2) i1 (Or.inr ⟨i, hi, rfl, hM.frS n1.2, hs⟩) n1.1 srt_nil z_nil (by simp only [List.length_nil]; omega)) (fun _ σ2 q2 => ?_)
  have q2a : SB σ2 (gth L [] A) := q2.1
  have f2 := n1.2.tr q2.2
  rw [g1] at q2a
  refine ok_w (m_gathers (hB.frS f2) i2 (Or.inr ⟨i, hi, rfl, hM.frS f2, hs⟩) q2a (flt_srt (adk_srt srt_nil A) L) (flt_z (adk_z z_nil A) L) (by omega)) (fun _ σ3 q3 => ?_)
  have q3a : SB σ3 (gth L (flt (adk [] A) L) B) := q3.1
  have f3 : frS σ σ3 := f2.tr q3.2
  rw [g2] at q3a
  have hb := q3a.2.1
  refine ok_chk (inb_nI hi (by omega)) ?_
  rw [nI_clamp (by omega), (hM.frS f3).1, q3a.1, nI_add]
  refine ok_if (fun c => ok_ret ⟨?_, f3⟩) (fun c => ok_ret ⟨?_, f3⟩)
  · show (0 : Int32) = _
    rw [if_pos ((nI_leI (b := 60) (by omega) (by omega)).mp c)]
  · show (1 : Int32) = _
    rw [if_neg (fun z => c ((nI_leI (b := 60) (by omega) (by omega)).mpr z))]
theorem m_hasKey {σ : sM} {h : Nat} {H : LH} (hH : HM σ h H) (hh : h < 3) (k : Int32) : f_X5_hasKey (nI h) k σ = some (if lk (adk [] H) k = none then 0 else 1) := by
  have hl := hH.2.1
  have hin : inb (nI h) 3 = true := inb_nI hh (by omega)
  have hci : (nI h).toNatClampNeg = h := nI_clamp (by omega)
  have loop : ∀ (R : LH) (j n : Nat) (c : Int32), H.drop j = R → j ≤ 30 → R.length + 1 ≤ n → (c = 0 ∨ c = 1) → b_X5_hasKey_5 n (nI h) k c (nI j) σ = some (if c = 0 ∧ ∀ s, s ∈ R → s.2.1 ≠ k then 0 else 1) := by
    intro R
    induction R with
    | nil =>
      intro j n c hd hj30 hn hc
      obtain ⟨n, rfl⟩ : ∃ z, n = z + 1 := ⟨n - 1, by omega⟩
      show (chk (inb (nI h) 3) (if (σ 58 (nI h).toNatClampNeg) ≤ nI j then _ else _)) = _
      rw [chk_true hin, hci, hH.1, if_pos (nI_le (drop_nil hd) (by omega))]
      rcases hc with rfl | rfl
      · rw [chk_true (by decide), if_pos ⟨rfl, fun s hs => by cases hs⟩]
      · rw [chk_true (by decide), if_neg (fun c => absurd c.1 (by decide))]
    | cons s r ih =>
      intro j n c hd hj30 hn hc
      obtain ⟨n, rfl⟩ : ∃ z, n = z + 1 := ⟨n - 1, by omega⟩
      obtain ⟨hj, hs1, hd1⟩ := hA_drop hd
      have hc1 : (s :: r : LH).length = r.length + 1 := rfl
      have k2 := (hH.2.2 j hj).2.1
      rw [hs1] at k2
      show (chk (inb (nI h) 3) (if (σ 58 (nI h).toNatClampNeg) ≤ nI j then _ else _)) = _
      rw [chk_true hin, hci, hH.1, if_neg (nI_ge hj (by omega))]
      rcases hc with rfl | rfl
      · rw [if_pos rfl, ix30, chk_true (inb_nI (by omega) (by omega)), nI_clamp (by omega), k2, nI_1]
        by_cases e : s.2.1 = k
        · rw [if_pos e, ih (j + 1) n 1 hd1 (by omega) (by omega) (Or.inr rfl), if_neg (fun c => absurd c.1 (by decide)), if_neg (fun c => c.2 s List.mem_cons_self e)]
        · rw [if_neg e, ih (j + 1) n 0 hd1 (by omega) (by omega) (Or.inl rfl)]
          congr 1
          by_cases z : ∀ x, x ∈ r → x.2.1 ≠ k
          · rw [if_pos ⟨rfl, z⟩, if_pos ⟨rfl, fun x hx => (List.mem_cons.mp hx).elim (fun q => by rw [q]; exact e) (z x)⟩]
          · rw [if_neg (fun c => z c.2), if_neg (fun c => z (fun x hx => c.2 x (List.mem_cons_of_mem _ hx)))]
      · rw [if_neg (c := (1 : Int32) = 0) (by decide), nI_1, ih (j + 1) n 1 hd1 (by omega) (by omega) (Or.inr rfl), if_neg (fun c => absurd c.1 (by decide)), if_neg (fun c => absurd c.1 (by decide))]
  have e : (lk (adk [] H) k = none) = ((0 : Int32) = 0 ∧ ∀ s, s ∈ H → s.2.1 ≠ k) := by
    rw [lk_adk srt_nil z_nil]
    simp [lk]
  have this : b_X5_hasKey_5 FU (nI h) k 0 0 σ = some (if (0 : Int32) = 0 ∧ ∀ s, s ∈ H → s.2.1 ≠ k then 0 else 1) := loop H 0 FU 0 rfl (by omega) (by unfold FU; omega) (Or.inl rfl)
  unfold f_X5_hasKey
  rw [this]
  by_cases z : lk (adk [] H) k = none
  · rw [if_pos z, if_pos (e ▸ z)]
  · rw [if_neg z, if_neg (fun c => z (e.symm ▸ c))]
theorem m_meet44 {σ : sM} {h : Nat} {H : LH} {S : LM} (hH : HM σ h H) (hh : h < 3) (hS : SB σ S) : b_X5_meet_44 FU (nI h) 0 0 σ = some (nI (cmn S (adk [] H)).length, σ) := by
  have hl := hS.2.1
  have loop : ∀ (R : LM) (j n c : Nat), S.drop j = R → j ≤ 60 → R.length + 1 ≤ n → b_X5_meet_44 n (nI h) (nI c) (nI j) σ = some (nI (c + (cmn R (adk [] H)).length), σ) := by
    intro R
    induction R with
    | nil =>
      intro j n c hd hj hn
      obtain ⟨n, rfl⟩ : ∃ z, n = z + 1 := ⟨n - 1, by omega⟩
      show (if (σ 44 15) ≤ nI j then _ else _) = _
      rw [hS.1, if_pos (nI_le (List.drop_eq_nil_iff.mp hd) (by omega))]
      rfl
    | cons s r ih =>
      intro j n c hd hj hn
      obtain ⟨n, rfl⟩ : ∃ z, n = z + 1 := ⟨n - 1, by omega⟩
      have hc1 : (s :: r : LM).length = r.length + 1 := rfl
      obtain ⟨hj2, k1, _, hd1⟩ := kA_drop hd
      show (if (σ 44 15) ≤ nI j then _ else _) = _
      rw [hS.1, if_neg (nI_ge hj2 (by omega)), chk_true (inb_nI (by omega) (by omega)), nI_clamp (by omega), hS.2.2 j hj2, k1, m_hasKey hH hh, rthn_e]
      have e : cmn (s :: r) (adk [] H) = if lk (adk [] H) s.1 = none then cmn r (adk [] H) else s :: cmn r (adk [] H) := by
        unfold cmn
        rw [List.filter_cons]
        cases lk (adk [] H) s.1 <;> rfl
      rw [e]
      by_cases p : lk (adk [] H) s.1 = none
      · rw [if_pos p, if_pos p, if_pos rfl, Int32.add_zero, nI_1, ih (j + 1) n c hd1 (by omega) (by omega)]
      · rw [if_neg p, if_neg p, if_neg (by decide), nI_1, nI_1, ih (j + 1) n (c + 1) hd1 (by omega) (by omega), List.length_cons, show c + 1 + (cmn r (adk [] H)).length = c + ((cmn r (adk [] H)).length + 1) from by omega]
  have := loop S 0 FU 0 rfl (by omega) (by unfold FU; omega)
  rw [Nat.zero_add] at this
  exact this
