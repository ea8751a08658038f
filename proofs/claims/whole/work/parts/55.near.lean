/-! the near keys, on both sides; the reference's taking away -/
abbrev lst (w : Int32) : Prop := w = 102 ∨ w = 108
def way4 (w : Int32) : Prop := w = 102 ∨ w = 99 ∨ w = 104 ∨ w = 108
def plc (L : LM) (k w : Int32) : Nat := if w = 102 ∨ w = 104 then cu L k else cb L k
def nrL (p b e : Nat) : Int32 := if b < min p e then nI (min p e - 1) else -1
def nrF (p b e : Nat) : Int32 := if max p b < e then nI (max p b) else -1
theorem plc_le (L : LM) (k w : Int32) : plc L k w ≤ L.length := by
  unfold plc
  split
  · exact cu_le _ _
  · exact cb_le _ _
theorem nr_L {w : Int32} (h : lst w) (L : LM) (k : Int32) {σ : sM} {t b e : Nat} (hT : TB σ t L) (hs : Srt L) (he : e ≤ 120) (hb : b ≤ 120) : f_X2_placeNear t k w (nI b) (nI e) σ = some (nrL (plc L k w) b e) := by
  have hp := plc_le L k w
  have hl := hT.2.1
  have fin : b_X2_placeNear_25 w (nI b) (nI e) (nI (plc L k w)) σ = some (nrL (plc L k w) b e) := by
    have core : (if ((if nI e < nI (plc L k w) then nI e else nI (plc L k w)) - (1 : Int32)) < nI b then some (-1 : Int32) else some ((if nI e < nI (plc L k w) then nI e else nI (plc L k w)) - (1 : Int32))) = some (nrL (plc L k w) b e) := by
      have q : (if nI e < nI (plc L k w) then nI e else nI (plc L k w)) = nI (min (plc L k w) e) := by
        by_cases c : e < plc L k w
        · rw [if_pos (nI_lt c (by omega)), Nat.min_eq_right (by omega)]
        · rw [if_neg (nI_nlt (by omega) (by omega)), Nat.min_eq_left (by omega)]
      rw [q]
      unfold nrL
      by_cases c0 : min (plc L k w) e = 0
      · rw [c0]
        have : (nI 0 - (1 : Int32)) < nI b := by
          rw [show nI 0 - (1 : Int32) = -1 from by decide, Int32.lt_iff_toInt_lt, nI_toInt (by omega)]
          show (-1 : Int) < b
          omega
        rw [if_pos this, if_neg (by omega)]
      · rw [one_nI, pk_sub (by omega)]
        by_cases c : b < min (plc L k w) e
        · rw [if_neg (nI_nlt (by omega) (by omega)), if_pos c]
        · rw [if_pos (nI_lt (by omega) (by omega)), if_neg c]
    unfold b_X2_placeNear_25
    rcases h with rfl | rfl
    · rw [if_pos rfl]; exact core
    · rw [if_neg (by decide), if_pos rfl]; exact core
  unfold f_X2_placeNear
  rcases h with rfl | rfl
  · have e1 : plc L k 102 = cu L k := if_pos (Or.inl rfl)
    rw [e1] at fin ⊢
    rw [if_pos rfl, tb_countUpTo hT hs, rthn_e]; exact fin
  · have e1 : plc L k 108 = cb L k := if_neg (by decide)
    rw [e1] at fin ⊢
    rw [if_neg (by decide), if_neg (by decide), tb_countBelow hT hs, rthn_e]; exact fin
theorem nr_F {w : Int32} (h : w = 99 ∨ w = 104) (L : LM) (k : Int32) {σ : sM} {t b e : Nat} (hT : TB σ t L) (hs : Srt L) (he : e ≤ 120) (hb : b ≤ 120) : f_X2_placeNear t k w (nI b) (nI e) σ = some (nrF (plc L k w) b e) := by
  have hp := plc_le L k w
  have hl := hT.2.1
  have fin : b_X2_placeNear_25 w (nI b) (nI e) (nI (plc L k w)) σ = some (nrF (plc L k w) b e) := by
    have core : (if nI e ≤ (if nI (plc L k w) < nI b then nI b else nI (plc L k w)) then some (-1 : Int32) else some (if nI (plc L k w) < nI b then nI b else nI (plc L k w))) = some (nrF (plc L k w) b e) := by
      rw [c_max (by omega) (by omega)]
      unfold nrF
      by_cases c : max (plc L k w) b < e
      · rw [if_neg (nI_ge (by omega) (by omega)), if_pos c]
      · rw [if_pos (nI_le (by omega) (by omega)), if_neg c]
    unfold b_X2_placeNear_25
    rcases h with rfl | rfl
    · rw [if_neg (by decide), if_neg (by decide)]; exact core
    · rw [if_neg (by decide), if_neg (by decide)]; exact core
  unfold f_X2_placeNear
  rcases h with rfl | rfl
  · have e1 : plc L k 99 = cb L k := if_neg (by decide)
    rw [e1] at fin ⊢
    rw [if_neg (by decide), if_neg (by decide), tb_countBelow hT hs, rthn_e]; exact fin
  · have e1 : plc L k 104 = cu L k := if_pos (Or.inr rfl)
    rw [e1] at fin ⊢
    rw [if_neg (by decide), if_pos rfl, tb_countUpTo hT hs, rthn_e]; exact fin
theorem m_side {L : LM} (hs : Srt L) {j : Nat} (hj : j < L.length) (k w : Int32) (hw : way4 w) (σ : sM) : f_X5_isOnSide (kA L j) k w σ = some (if lst w then (if j < plc L k w then 1 else 0) else (if j < plc L k w then 0 else 1)) := by
  have h1 := cb_iff hs (k := k) hj
  have h2 := cu_iff hs (k := k) hj
  have h3 := i_le (a := kA L j) (b := k)
  have h4 := i_le (a := k) (b := kA L j)
  unfold f_X5_isOnSide
  rcases hw with rfl | rfl | rfl | rfl
  · have e1 : plc L k 102 = cu L k := if_pos (Or.inl rfl)
    rw [if_pos rfl, if_pos (Or.inl rfl), e1]
    by_cases c : k < kA L j
    · rw [if_pos c, if_neg (fun q => h3.mp (h2.mp q) c)]
    · rw [if_neg c, if_pos (h2.mpr (h3.mpr c))]
  · have e1 : plc L k 99 = cb L k := if_neg (by decide)
    have e2 : ¬ lst 99 := by unfold lst; decide
    rw [if_neg (by decide), if_pos rfl, if_neg e2, e1]
    by_cases c : kA L j < k
    · rw [if_pos c, if_pos (h1.mpr c)]
    · rw [if_neg c, if_neg (fun q => c (h1.mp q))]
  · have e1 : plc L k 104 = cu L k := if_pos (Or.inr rfl)
    have e2 : ¬ lst 104 := by unfold lst; decide
    rw [if_neg (by decide), if_neg (by decide), if_pos rfl, if_neg e2, e1]
    by_cases c : kA L j ≤ k
    · rw [if_pos c, if_pos (h2.mpr c)]
    · rw [if_neg c, if_neg (fun q => c (h2.mp q))]
  · have e1 : plc L k 108 = cb L k := if_neg (by decide)
    rw [if_neg (by decide), if_neg (by decide), if_neg (by decide), if_pos (Or.inr rfl), e1]
    by_cases c : k ≤ kA L j
    · rw [if_pos c, if_neg (fun q => h4.mp c (h1.mp q))]
    · rw [if_neg c, if_pos (h1.mpr (Classical.byContradiction (fun q => c (h4.mpr q))))]
theorem lst_dec (w : Int32) : lst w ∨ ¬ lst w := Classical.em _
theorem m1_lt0 : (-1 : Int32) < 0 := by decide
theorem nr_stepL {n i e j : Nat} {k w v6 : Int32} {σ : sM} {K : Int32 → Option Int32} (h : lst w) : (if v6 < 0 then K (nI j) else if w = 102 then K (nI j) else if w = 108 then K (nI j) else K v6) = K (nI j) := by
  rcases h with rfl | rfl
  · rw [if_pos rfl]; split <;> rfl
  · rw [if_neg (c := (108 : Int32) = 102) (by decide), if_pos rfl]; split <;> rfl
theorem nr_stepF {j : Nat} {w v6 : Int32} {K : Int32 → Option Int32} (h : ¬ lst w) : (if v6 < 0 then K (nI j) else if w = 102 then K (nI j) else if w = 108 then K (nI j) else K v6) = (if v6 < 0 then K (nI j) else K v6) := by
  rw [if_neg (fun c => h (Or.inl c)), if_neg (fun c => h (Or.inr c))]
theorem m_nearL {σ : sM} {i : Nat} {L : LM} (hM : MB σ i L) (hs : Srt L) (hi : i < 3) {k w : Int32} (hw : lst w) {b e : Nat} (hb : b ≤ e) (he : e ≤ L.length) : f_X5_nearAt (nI i) (nI b) (nI e) k w σ = some (nrL (plc L k w) b e) := by
  have hl := hM.2.1
  have hp := plc_le L k w
  have hw4 : way4 w := by rcases hw with rfl | rfl <;> simp [way4]
  have loop : ∀ (d j n : Nat), e = j + d → b ≤ j → d + 1 ≤ n → b_X5_nearAt_6 n (nI i) (nI e) k w (nrL (plc L k w) b j) (nI j) σ = some (nrL (plc L k w) b e) := by
    intro d
    induction d with
    | zero =>
      intro j n hj hbj hn
      obtain ⟨n, rfl⟩ : ∃ z, n = z + 1 := ⟨n - 1, by omega⟩
      show (if nI e ≤ nI j then _ else _) = _
      rw [if_pos (nI_le (by omega) (by omega)), show j = e from by omega]
    | succ d ih =>
      intro j n hj hbj hn
      obtain ⟨n, rfl⟩ : ∃ z, n = z + 1 := ⟨n - 1, by omega⟩
      have nx := ih (j + 1) n (by omega) (by omega) (by omega)
      show (if nI e ≤ nI j then _ else _) = _
      rw [if_neg (nI_ge (by omega) (by omega)), ix, chk_true (inb_nI (by omega) (by omega)), nI_clamp (by omega), (hM.2.2 j (by omega)).1, m_side hs (by omega) k w hw4, rthn_e, if_pos hw]
      by_cases c : j < plc L k w
      · have e1 : nrL (plc L k w) b (j + 1) = nI j := by
          unfold nrL
          rw [if_pos (by omega), show min (plc L k w) (j + 1) - 1 = j from by omega]
        rw [e1] at nx
        rw [if_pos c, if_neg (by decide), nr_stepL (n := 0) (i := 0) (e := 0) (k := 0) (σ := σ) (K := fun x => b_X5_nearAt_6 n (nI i) (nI e) k w x (nI j + 1) σ) hw, nI_1]
        exact nx
      · have e1 : nrL (plc L k w) b (j + 1) = nrL (plc L k w) b j := by
          unfold nrL
          rw [show min (plc L k w) (j + 1) = min (plc L k w) j from by omega]
        rw [e1] at nx
        rw [if_neg c, if_pos rfl, nI_1]
        exact nx
  have e0 : nrL (plc L k w) b b = -1 := by unfold nrL; rw [if_neg (by omega)]
  have := loop (e - b) b FU (by omega) (Nat.le_refl _) (by unfold FU; omega)
  rw [e0] at this
  exact this
theorem m_nearF {σ : sM} {i : Nat} {L : LM} (hM : MB σ i L) (hs : Srt L) (hi : i < 3) {k w : Int32} (hw : w = 99 ∨ w = 104) {b e : Nat} (hb : b ≤ e) (he : e ≤ L.length) : f_X5_nearAt (nI i) (nI b) (nI e) k w σ = some (nrF (plc L k w) b e) := by
  have hl := hM.2.1
  have hp := plc_le L k w
  have hw4 : way4 w := by rcases hw with rfl | rfl <;> simp [way4]
  have hnl : ¬ lst w := by rcases hw with rfl | rfl <;> (unfold lst; decide)
  have loop : ∀ (d j n : Nat), e = j + d → b ≤ j → d + 1 ≤ n → b_X5_nearAt_6 n (nI i) (nI e) k w (nrF (plc L k w) b j) (nI j) σ = some (nrF (plc L k w) b e) := by
    intro d
    induction d with
    | zero =>
      intro j n hj hbj hn
      obtain ⟨n, rfl⟩ : ∃ z, n = z + 1 := ⟨n - 1, by omega⟩
      show (if nI e ≤ nI j then _ else _) = _
      rw [if_pos (nI_le (by omega) (by omega)), show j = e from by omega]
    | succ d ih =>
      intro j n hj hbj hn
      obtain ⟨n, rfl⟩ : ∃ z, n = z + 1 := ⟨n - 1, by omega⟩
      have nx := ih (j + 1) n (by omega) (by omega) (by omega)
      show (if nI e ≤ nI j then _ else _) = _
      rw [if_neg (nI_ge (by omega) (by omega)), ix, chk_true (inb_nI (by omega) (by omega)), nI_clamp (by omega), (hM.2.2 j (by omega)).1, m_side hs (by omega) k w hw4, rthn_e, if_neg hnl]
      by_cases c : j < plc L k w
      · have e1 : nrF (plc L k w) b (j + 1) = nrF (plc L k w) b j := by
          unfold nrF
          rw [if_neg (by omega), if_neg (by omega)]
        rw [e1] at nx
        rw [if_pos c, if_pos rfl, nI_1]
        exact nx
      · rw [if_neg c, if_neg (by decide), nr_stepF (K := fun x => b_X5_nearAt_6 n (nI i) (nI e) k w x (nI j + 1) σ) hnl, nI_1]
        by_cases c2 : max (plc L k w) b < j
        · have e1 : nrF (plc L k w) b (j + 1) = nI (max (plc L k w) b) := by unfold nrF; rw [if_pos (by omega)]
          have e2 : nrF (plc L k w) b j = nI (max (plc L k w) b) := by unfold nrF; rw [if_pos c2]
          rw [e1] at nx
          rw [e2, if_neg (nI_nlt0 (by omega))]
          exact nx
        · have e1 : nrF (plc L k w) b (j + 1) = nI j := by unfold nrF; rw [if_pos (by omega), show max (plc L k w) b = j from by omega]
          have e2 : nrF (plc L k w) b j = -1 := by unfold nrF; rw [if_neg c2]
          rw [e1] at nx
          rw [e2, if_pos m1_lt0]
          exact nx
  have e0 : nrF (plc L k w) b b = -1 := by unfold nrF; rw [if_neg (by omega)]
  have := loop (e - b) b FU (by omega) (Nat.le_refl _) (by unfold FU; omega)
  rw [e0] at this
  exact this
/-- the place of the near key, or none -/
def nr (L : LM) (k w : Int32) (b e : Nat) : Int32 := if w = 102 ∨ w = 108 then nrL (plc L k w) b e else nrF (plc L k w) b e
theorem nr_in {L : LM} {k w : Int32} {b e : Nat} : nr L k w b e = -1 ∨ ∃ p, p < e ∧ nr L k w b e = nI p := by
  unfold nr
  by_cases h : w = 102 ∨ w = 108
  · rw [if_pos h]
    unfold nrL
    by_cases c : b < min (plc L k w) e
    · rw [if_pos c]; exact Or.inr ⟨_, by omega, rfl⟩
    · rw [if_neg c]; exact Or.inl rfl
  · rw [if_neg h]
    unfold nrF
    by_cases c : max (plc L k w) b < e
    · rw [if_pos c]; exact Or.inr ⟨_, by omega, rfl⟩
    · rw [if_neg c]; exact Or.inl rfl
theorem c_near {σ : sM} {t : Nat} {L : LM} (hT : TB σ t L) (hs : Srt L) {k w : Int32} (hw : way4 w) {b e : Nat} (hb : b ≤ 120) (he : e ≤ 120) : f_X2_placeNear t k w (nI b) (nI e) σ = some (nr L k w b e) := by
  unfold nr
  by_cases h : w = 102 ∨ w = 108
  · rw [if_pos h]; exact nr_L h L k hT hs he hb
  · rw [if_neg h]; refine nr_F ?_ L k hT hs he hb
    rcases hw with q | q | q | q
    · exact absurd (Or.inl q) h
    · exact Or.inl q
    · exact Or.inr q
    · exact absurd (Or.inr q) h
theorem m_near {σ : sM} {i : Nat} {L : LM} (hM : MB σ i L) (hs : Srt L) (hi : i < 3) {k w : Int32} (hw : way4 w) {b e : Nat} (hb : b ≤ e) (he : e ≤ L.length) : f_X5_nearAt (nI i) (nI b) (nI e) k w σ = some (nr L k w b e) := by
  unfold nr
  by_cases h : w = 102 ∨ w = 108
  · rw [if_pos h]; exact m_nearL hM hs hi h hb he
  · rw [if_neg h]; refine m_nearF hM hs hi ?_ hb he
    rcases hw with q | q | q | q
    · exact absurd (Or.inl q) h
    · exact Or.inl q
    · exact Or.inr q
    · exact absurd (Or.inr q) h
/-! the reference takes an entry away -/
theorem er_k (L : LM) {p : Nat} (hp : p < L.length) (j : Nat) : kA (L.take p ++ L.drop (p + 1)) j = (if j < p then kA L j else kA L (j + 1)) ∧ vA (L.take p ++ L.drop (p + 1)) j = (if j < p then vA L j else vA L (j + 1)) := by
  obtain ⟨a, b⟩ := kA_td L (b := p) (e := p + 1) (by omega) (by omega) j
  rw [a, b]
  by_cases c : j < p
  · rw [if_pos c, if_pos c, if_pos c, if_pos c]; exact ⟨rfl, rfl⟩
  · rw [if_neg c, if_neg c, if_neg c, if_neg c, show p + 1 + (j - p) = j + 1 from by omega]; exact ⟨rfl, rfl⟩
theorem er_len (L : LM) {p : Nat} (hp : p < L.length) : (L.take p ++ L.drop (p + 1)).length = L.length - 1 := by
  rw [List.length_append, List.length_take, List.length_drop]; omega
theorem m_takes {σ : sM} {i : Nat} {L : LM} (hM : MB σ i L) (hi : i < 3) {p : Nat} (hp : p < L.length) : ok (f_X5_takes (nI i) (nI p) σ) (fun q => MB q.2 i (L.take p ++ L.drop (p + 1)) ∧ frM σ q.2 i) := by
  have hl := hM.2.1
  have hin : inb (nI i) 3 = true := inb_nI hi (by omega)
  have hci : (nI i).toNatClampNeg = i := nI_clamp (by omega)
  have hlen := er_len L hp
  have loop : ∀ (d j n : Nat) (σ1 : sM), L.length = j + d + 1 → p ≤ j → d + 1 ≤ n → frM σ σ1 i → σ1 47 i = nI (L.length - 1) → (∀ z, z < L.length → σ1 45 (60 * i + z) = (if p ≤ z ∧ z < j then kA L (z + 1) else kA L z) ∧ σ1 46 (60 * i + z) = (if p ≤ z ∧ z < j then vA L (z + 1) else vA L z)) →
      ok (b_X5_takes_12 n (nI i) (nI j) σ1) (fun q => MB q.2 i (L.take p ++ L.drop (p + 1)) ∧ frM σ q.2 i) := by
    intro d
    induction d with
    | zero =>
      intro j n σ1 hj hpj hn hf h7 hz
      obtain ⟨n, rfl⟩ : ∃ z, n = z + 1 := ⟨n - 1, by omega⟩
      show ok (chk (inb (nI i) 3) (if (σ1 47 (nI i).toNatClampNeg) ≤ nI j then _ else _)) _
      refine ok_chk hin ?_
      rw [hci, h7]
      refine ok_ip (nI_le (by omega) (by omega)) (ok_ret ⟨⟨?_, by omega, fun z hz2 => ?_⟩, hf⟩)
      · show σ1 47 i = _
        rw [h7, hlen]
      · rw [hlen] at hz2
        obtain ⟨a, b⟩ := er_k L hp z
        obtain ⟨c1, c2⟩ := hz z (by omega)
        show σ1 45 _ = _ ∧ σ1 46 _ = _
        rw [a, b, c1, c2]
        by_cases c : z < p
        · rw [if_pos c, if_pos c, if_neg (by omega), if_neg (by omega)]; exact ⟨rfl, rfl⟩
        · rw [if_neg c, if_neg c, if_pos ⟨by omega, by omega⟩, if_pos ⟨by omega, by omega⟩]; exact ⟨rfl, rfl⟩
    | succ d ih =>
      intro j n σ1 hj hpj hn hf h7 hz
      obtain ⟨n, rfl⟩ : ∃ z, n = z + 1 := ⟨n - 1, by omega⟩
      show ok (chk (inb (nI i) 3) (if (σ1 47 (nI i).toNatClampNeg) ≤ nI j then _ else _)) _
      refine ok_chk hin ?_
      rw [hci, h7]
      refine ok_in (nI_ge (by omega) (by omega)) ?_
      rw [ix, nI_1, nI_1, nI_clamp (n := 60 * i + j + 1) (by omega), nI_clamp (n := 60 * i + j) (by omega)]
      refine ok_chk (inb_nI (by omega) (by omega)) (ok_chk (inb_nI (by omega) (by omega)) (ok_stl (fun σ2 e2 => ?_)))
      refine ok_chk (inb_nI (by omega) (by omega)) (ok_chk (inb_nI (by omega) (by omega)) (ok_stl (fun σ3 e3 => ?_)))
      have r5 : σ3 45 = upd (σ1 45) (60 * i + j) (σ1 45 (60 * i + j + 1)) := by rw [e3, up_n (by omega), e2, up_s]
      have r6 : σ3 46 = upd (σ1 46) (60 * i + j) (σ1 46 (60 * i + j + 1)) := by rw [e3, up_s, e2, up_n (by omega)]
      have r7 : σ3 47 = σ1 47 := by rw [e3, up_n (by omega), e2, up_n (by omega)]
      refine ih (j + 1) n σ3 (by omega) (by omega) (by omega) (hf.tr ⟨fun z a b c => ?_, fun z hz2 => ?_, fun z hz2 => ?_⟩) (by rw [r7]; exact h7) (fun z hz2 => ?_)
      · rw [e3, up_n b, e2, up_n a]
      · rw [r5, r6, upd_n (by omega), upd_n (by omega)]; exact ⟨rfl, rfl⟩
      · rw [r7]
      · rw [r5, r6]
        by_cases c : z = j
        · obtain ⟨c1, c2⟩ := hz (j + 1) (by omega)
          have g1 : ¬ (p ≤ j + 1 ∧ j + 1 < j) := by omega
          have g2 : p ≤ j ∧ j < j + 1 := by omega
          rw [c, upd_s, upd_s, Nat.add_assoc, c1, c2, if_neg g1, if_neg g1, if_pos g2, if_pos g2]
          exact ⟨rfl, rfl⟩
        · obtain ⟨c1, c2⟩ := hz z hz2
          rw [upd_n (by omega), upd_n (by omega), c1, c2]
          by_cases c3 : p ≤ z ∧ z < j
          · rw [if_pos c3, if_pos c3, if_pos ⟨by omega, by omega⟩, if_pos ⟨by omega, by omega⟩]; exact ⟨rfl, rfl⟩
          · rw [if_neg c3, if_neg c3, if_neg (by omega), if_neg (by omega)]; exact ⟨rfl, rfl⟩
  unfold f_X5_takes
  rw [hci]
  refine ok_chk hin (ok_chk hin (ok_stl (fun σ1 e1 => ?_)))
  refine loop (L.length - 1 - p) p FU σ1 (by omega) (Nat.le_refl _) (by unfold FU; omega) ⟨fun z a b c => ?_, fun z _ => ?_, fun z hz => ?_⟩ ?_ (fun z hz => ?_)
  · rw [e1, up_n c]
  · rw [e1, up_n (by omega), up_n (by omega)]; exact ⟨rfl, rfl⟩
  · rw [e1, up_s, upd_n hz]
  · rw [e1, up_s, upd_s, hM.1, one_nI, pk_sub (by omega)]
  · rw [e1, up_n (by omega), up_n (by omega), if_neg (by omega), if_neg (by omega)]
    exact hM.2.2 z hz
