/-! near keys and polls are sound -/
theorem below0 {L : LM} (hs : Srt L) {j : Nat} (hj : j < L.length) (q : Int32) (σ : sM) : f_X0_isBelow (kA L j) q 0 σ = some (if j < cb L q then 1 else 0) := by
  unfold f_X0_isBelow
  rw [if_pos rfl]
  by_cases c : q ≤ kA L j
  · rw [if_pos c, if_neg (fun h => i_le.mp c (cb_lt h))]
  · rw [if_neg c, if_pos ((cb_iff hs hj).mpr (Classical.byContradiction (fun h => c (i_le.mpr h))))]
theorem below1 {L : LM} (hs : Srt L) {j : Nat} (hj : j < L.length) (q : Int32) (σ : sM) : f_X0_isBelow (kA L j) q 1 σ = some (if j < cu L q then 1 else 0) := by
  unfold f_X0_isBelow
  rw [if_neg (by decide)]
  by_cases c : q < kA L j
  · rw [if_pos c, if_neg (fun h => i_le.mp ((cu_iff hs hj).mp h) c)]
  · rw [if_neg c, if_pos ((cu_iff hs hj).mpr (i_le.mpr c))]
theorem sp90 {σ : sM} {t : Nat} {L : LM} (hT : TB σ t L) {q x : Int32} {c : Nat} (hb : ∀ j, j < L.length → f_X0_isBelow (kA L j) q x σ = some (if j < c then 1 else 0)) : b_X0_isSplitSound_90 t q x (nrF c 0 L.length) σ = some 1 := by
  have hl := hT.2.1
  unfold b_X0_isSplitSound_90 nrF
  by_cases h : max c 0 < L.length
  · have h2 : max c 0 = c := by omega
    rw [if_pos h, h2, if_neg (nI_nlt0 (by omega)), chk_true (inb_nI (by omega) (by omega)), nI_clamp (by omega), (hT.2.2 c (by omega)).1, hb c (by omega), rthn_e, if_neg (Nat.lt_irrefl c), if_pos rfl]
  · rw [if_neg h, if_pos m1_lt0]
theorem sp35 {σ : sM} {t : Nat} {L : LM} (hT : TB σ t L) {q x w : Int32} {c : Nat} (hc : c ≤ L.length) (hb : ∀ j, j < L.length → f_X0_isBelow (kA L j) q x σ = some (if j < c then 1 else 0)) (hn : f_X2_placeNear t q w 0 (σ t 2) σ = some (nrF c 0 L.length)) : b_X0_isSplitSound_35 t q x (nrL c 0 L.length) t q w σ = some 1 := by
  have hl := hT.2.1
  have e1 : nrL c 0 L.length + (1 : Int32) = nI c := by
    unfold nrL
    by_cases h : 0 < min c L.length
    · rw [if_pos h, nI_1]; congr 1; omega
    · rw [if_neg h, show c = 0 from by omega]; rfl
  have h67 : ∀ y, y = nrF c 0 L.length → b_X0_isSplitSound_67 t q x (nrL c 0 L.length) (nrF c 0 L.length) (nrF c 0 L.length) y σ = some 1 := by
    intro y hy
    unfold b_X0_isSplitSound_67
    rw [if_pos hy.symm]
    have h90 := sp90 hT hb
    unfold nrL
    by_cases h : 0 < min c L.length
    · rw [if_pos h, if_neg (nI_nlt0 (by omega)), chk_true (inb_nI (by omega) (by omega)), nI_clamp (by omega), (hT.2.2 _ (by omega)).1, hb _ (by omega), rthn_e, if_pos (c := min c L.length - 1 < c) (by omega), if_neg (by decide)]
      exact h90
    · rw [if_neg h, if_pos m1_lt0]
      exact h90
  unfold b_X0_isSplitSound_35
  rw [hn, rthn_e, e1, hT.1]
  by_cases h : L.length ≤ c
  · rw [if_pos (nI_le h (by omega))]
    exact h67 _ (by unfold nrF; rw [if_neg (by omega)])
  · rw [if_neg (nI_ge (by omega) (by omega))]
    exact h67 _ (by unfold nrF; rw [if_pos (by omega), show max c 0 = c from by omega])
theorem split0 {σ : sM} {t : Nat} {L : LM} (hT : TB σ t L) (hs : Srt L) (q : Int32) : f_X0_isSplitSound t q 0 σ = some 1 := by
  have hl := hT.2.1
  have e1 : f_X2_placeNear t q 108 0 (σ t 2) σ = some (nrL (cb L q) 0 L.length) := by
    rw [hT.1]
    exact nr_L (b := 0) (e := L.length) (Or.inr rfl) L q hT hs hl (by omega)
  have e2 : f_X2_placeNear t q 99 0 (σ t 2) σ = some (nrF (cb L q) 0 L.length) := by
    rw [hT.1]
    exact nr_F (b := 0) (e := L.length) (Or.inl rfl) L q hT hs hl (by omega)
  unfold f_X0_isSplitSound
  rw [if_pos rfl, e1, rthn_e, if_pos rfl]
  exact sp35 hT (cb_le L q) (fun j hj => below0 hs hj q σ) e2
theorem split1 {σ : sM} {t : Nat} {L : LM} (hT : TB σ t L) (hs : Srt L) (q : Int32) : f_X0_isSplitSound t q 1 σ = some 1 := by
  have hl := hT.2.1
  have e1 : f_X2_placeNear t q 102 0 (σ t 2) σ = some (nrL (cu L q) 0 L.length) := by
    rw [hT.1]
    exact nr_L (b := 0) (e := L.length) (Or.inl rfl) L q hT hs hl (by omega)
  have e2 : f_X2_placeNear t q 104 0 (σ t 2) σ = some (nrF (cu L q) 0 L.length) := by
    rw [hT.1]
    exact nr_F (b := 0) (e := L.length) (Or.inr rfl) L q hT hs hl (by omega)
  unfold f_X0_isSplitSound
  rw [if_neg (by decide), e1, rthn_e, if_neg (by decide)]
  exact sp35 hT (cu_le L q) (fun j hj => below1 hs hj q σ) e2
theorem c_nearKeys {σ : sM} {t : Nat} {L : LM} (hT : TB σ t L) (hs : Srt L) : f_X0_areNearKeysSound t σ = some 1 := by
  have hl := hT.2.1
  have step : ∀ (K2 : Nat → Int32 → sM → Option Int32) (n : Nat) (v2 k v4 : Int32), ¬ (1 : Int32) < v4 → b_X0_areNearKeysSound_38 K2 (n + 1) t v2 k v4 σ = b_X0_areNearKeysSound_38 K2 n t v2 k (v4 + 1) σ := by
    intro K2 n v2 k v4 h
    show (if (1 : Int32) < v4 then _ else _) = _
    rw [if_neg h, split1 hT hs, rthn_e, if_neg (by decide), split0 hT hs, rthn_e, if_neg (by decide)]
  have inner : ∀ (K2 : Nat → Int32 → sM → Option Int32) (v2 k : Int32), b_X0_areNearKeysSound_38 K2 FU t v2 k (-1) σ = K2 t (v2 + 1) σ := by
    intro K2 v2 k
    show b_X0_areNearKeysSound_38 K2 (196 + 1 + 1 + 1 + 1) t v2 k (-1) σ = _
    rw [step K2 _ v2 k (-1) (by decide), show (-1 : Int32) + 1 = 0 from by decide, step K2 _ v2 k 0 (by decide), show (0 : Int32) + 1 = 1 from by decide, step K2 _ v2 k 1 (by decide), show (1 : Int32) + 1 = 2 from by decide]
    show (if (1 : Int32) < 2 then _ else _) = _
    rw [if_pos (by decide)]
  have loop : ∀ (d j n : Nat), L.length = j + d → d + 1 ≤ n → b_X0_areNearKeysSound_2 n t (nI j) σ = some 1 := by
    intro d
    induction d with
    | zero =>
      intro j n hj hn
      obtain ⟨n, rfl⟩ : ∃ z, n = z + 1 := ⟨n - 1, by omega⟩
      show (if (σ t 2) ≤ nI j then _ else _) = _
      rw [hT.1, if_pos (nI_le (by omega) (by omega))]
    | succ d ih =>
      intro j n hj hn
      obtain ⟨n, rfl⟩ : ∃ z, n = z + 1 := ⟨n - 1, by omega⟩
      have nx := ih (j + 1) n (by omega) (by omega)
      show (if (σ t 2) ≤ nI j then _ else _) = _
      rw [hT.1, if_neg (nI_ge (by omega) (by omega)), chk_true (inb_nI (by omega) (by omega))]
      by_cases c : j = 0
      · rw [if_pos (by rw [c]; decide), inner, nI_1]; exact nx
      · have e : nI j - (1 : Int32) = nI (j - 1) := by rw [one_nI, pk_sub (by omega)]
        rw [if_neg (nI_nle (by omega) (by omega)), e, chk_true (inb_nI (by omega) (by omega)), nI_clamp (by omega), nI_clamp (by omega), (hT.2.2 (j - 1) (by omega)).1, (hT.2.2 j (by omega)).1, if_pos (hs.lt (by omega) (by omega)), inner, nI_1]
        exact nx
  exact loop L.length 0 FU (by omega) (by unfold FU; omega)
theorem tb_at {σ : sM} {t u : Nat} {A B : LM} (hA : TB σ t A) (hB : TB σ u B) {i j : Nat} (hi : i < A.length) (hj : j < B.length) (hk : kA A i = kA B j) (hv : vA A i = vA B j) : f_X2_hasSameAt t (nI i) u (nI j) σ = some 1 := by
  have h1 := hA.2.1
  have h2 := hB.2.1
  unfold f_X2_hasSameAt
  rw [chk_true (inb_nI (by omega) (by omega)), chk_true (inb_nI (by omega) (by omega)), nI_clamp (by omega), nI_clamp (by omega), (hA.2.2 i hi).1, (hB.2.2 j hj).1, (hA.2.2 i hi).2, (hB.2.2 j hj).2, if_pos hk, chk_true (inb_nI (by omega) (by omega)), chk_true (inb_nI (by omega) (by omega)), if_pos hv]
theorem c_polls0 {σ : sM} {t : Nat} {L : LM} (hT : TB σ t L) (it : t = 6 ∨ t = 9 ∨ t = 12) : ok (f_X0_arePollsSoundFrom t 0 σ) (fun q => q.1 = 1 ∧ frB σ q.2) := by
  have hl := hT.2.1
  have loop : ∀ (R : LM) (j n : Nat) (σ1 : sM), L.drop j = R → j ≤ 120 → R.length + 1 ≤ n → TB σ1 18 R → frT σ σ1 18 → ok (b_X0_arePollsSoundFrom_10 n t 0 (nI j) σ1) (fun q => q.1 = 1 ∧ frT σ q.2 18) := by
    intro R
    induction R with
    | nil =>
      intro j n σ1 hd hj hn hR hf
      obtain ⟨n, rfl⟩ : ∃ z, n = z + 1 := ⟨n - 1, by omega⟩
      have hB := hT.fr hf isT18 (isT_m it) (by omega)
      show ok (if (σ1 t 2) ≤ nI j then _ else _) _
      rw [hB.1]
      refine ok_ip (nI_le (List.drop_eq_nil_iff.mp hd) (by omega)) (ok_ip ?_ (ok_ret ⟨rfl, hf⟩))
      rw [hR.1]; rfl
    | cons s r ih =>
      intro j n σ1 hd hj hn hR hf
      obtain ⟨n, rfl⟩ : ∃ z, n = z + 1 := ⟨n - 1, by omega⟩
      obtain ⟨hj2, k1, k2, hd1⟩ := kA_drop hd
      have hB := hT.fr hf isT18 (isT_m it) (by omega)
      have hc1 : (s :: r : LM).length = r.length + 1 := rfl
      have hlen : (s :: r : LM).length = L.length - j := by rw [← hd, List.length_drop]
      show ok (if (σ1 t 2) ≤ nI j then _ else _) _
      rw [hB.1]
      refine ok_in (nI_ge hj2 (by omega)) ?_
      rw [hR.1]
      refine ok_ip (by rw [pk_sub (by omega), hlen]) (ok_ip rfl ?_)
      unfold b_X0_arePollsSoundFrom_53
      refine ok_ip rfl ?_
      have hat : f_X2_hasSameAt 18 (nI 0) t (nI j) σ1 = some 1 := tb_at hR hB (by omega) hj2 k1.symm k2.symm
      refine ok_r hat (ok_in (by decide) ?_)
      refine ok_w (tb_dropPlaces hR (b := 0) (e := 1) (by omega) (by omega)) (fun _ σ2 q2 => ?_)
      rw [nI_1]
      exact ih (j + 1) n σ2 hd1 (by omega) (by omega) q2.1 (hf.tr q2.2)
  unfold f_X0_arePollsSoundFrom
  refine ok_w (tb_copy hT isT18 (isT_m it) (by omega)) (fun _ σ1 q1 => ?_)
  exact ok_mono (loop L 0 FU σ1 rfl (by omega) (by unfold FU; omega) q1.1 q1.2) (fun q hq => ⟨hq.1, hq.2.B (by omega)⟩)
theorem c_polls1 {σ : sM} {t : Nat} {L : LM} (hT : TB σ t L) (it : t = 6 ∨ t = 9 ∨ t = 12) : ok (f_X0_arePollsSoundFrom t 1 σ) (fun q => q.1 = 1 ∧ frB σ q.2) := by
  have hl := hT.2.1
  have loop : ∀ (d j n : Nat) (σ1 : sM), L.length = j + d → d + 1 ≤ n → TB σ1 18 (L.take d) → frT σ σ1 18 → ok (b_X0_arePollsSoundFrom_10 n t 1 (nI j) σ1) (fun q => q.1 = 1 ∧ frT σ q.2 18) := by
    intro d
    induction d with
    | zero =>
      intro j n σ1 hj hn hR hf
      obtain ⟨n, rfl⟩ : ∃ z, n = z + 1 := ⟨n - 1, by omega⟩
      have hB := hT.fr hf isT18 (isT_m it) (by omega)
      show ok (if (σ1 t 2) ≤ nI j then _ else _) _
      rw [hB.1]
      refine ok_ip (nI_le (by omega) (by omega)) (ok_ip ?_ (ok_ret ⟨rfl, hf⟩))
      rw [hR.1]; rfl
    | succ d ih =>
      intro j n σ1 hj hn hR hf
      obtain ⟨n, rfl⟩ : ∃ z, n = z + 1 := ⟨n - 1, by omega⟩
      have hB := hT.fr hf isT18 (isT_m it) (by omega)
      have hlen : (L.take (d + 1)).length = d + 1 := by rw [List.length_take]; omega
      show ok (if (σ1 t 2) ≤ nI j then _ else _) _
      rw [hB.1]
      refine ok_in (nI_ge (by omega) (by omega)) ?_
      rw [hR.1, hlen]
      refine ok_ip (by rw [pk_sub (by omega)]; congr 1; omega) (ok_in (by decide) ?_)
      have e1 : nI (d + 1) - (1 : Int32) = nI d := nI_pred d
      rw [e1]
      unfold b_X0_arePollsSoundFrom_53
      refine ok_in (by decide) ?_
      have e2 : (L.take (d + 1)).getD d (0, 0) = L.getD d (0, 0) := by
        rw [List.getD_eq_getElem?_getD, List.getD_eq_getElem?_getD, List.getElem?_take_of_lt (by omega)]
      have hat : f_X2_hasSameAt 18 (nI d) t (nI d) σ1 = some 1 := tb_at hR hB (by omega) (by omega) (by unfold kA; rw [e2]) (by unfold vA; rw [e2])
      refine ok_r hat (ok_in (by decide) ?_)
      rw [nI_1 d]
      refine ok_w (tb_dropPlaces hR (b := d) (e := d + 1) (by omega) (by omega)) (fun _ σ2 q2 => ?_)
      rw [nI_1]
      have e3 : (L.take (d + 1)).take d ++ (L.take (d + 1)).drop (d + 1) = L.take d := by
        rw [List.take_take, Nat.min_eq_left (by omega), List.drop_of_length_le (by omega), List.append_nil]
      have q2a : TB σ2 18 ((L.take (d + 1)).take d ++ (L.take (d + 1)).drop (d + 1)) := q2.1
      rw [e3] at q2a
      exact ih (j + 1) n σ2 (by omega) (by omega) q2a (hf.tr q2.2)
  unfold f_X0_arePollsSoundFrom
  refine ok_w (tb_copy hT isT18 (isT_m it) (by omega)) (fun _ σ1 q1 => ?_)
  have q1a : TB σ1 18 (L.take L.length) := by rw [List.take_length]; exact q1.1
  exact ok_mono (loop L.length 0 FU σ1 (by omega) (by unfold FU; omega) q1a q1.2) (fun q hq => ⟨hq.1, hq.2.B (by omega)⟩)
theorem c_polls {σ : sM} {t : Nat} {L : LM} (hT : TB σ t L) (it : t = 6 ∨ t = 9 ∨ t = 12) : ok (f_X0_arePollsSound t σ) (fun q => q.1 = 1 ∧ frB σ q.2) := by
  unfold f_X0_arePollsSound
  refine ok_w (c_polls0 hT it) (fun x1 σ1 q1 => ?_)
  have x1e : x1 = 1 := q1.1
  rw [x1e]
  refine ok_in (by decide) ?_
  refine ok_w (c_polls1 (hT.frB q1.2 it) it) (fun x2 σ2 q2 => ?_)
  have x2e : x2 = 1 := q2.1
  rw [x2e]
  refine ok_in (by decide) (ok_ret ⟨rfl, q1.2.tr q2.2⟩)
/-! the self-test -/
def CS (σ : sM) (A : Nat → LM) (H : Nat → LH) : Prop := (∀ i, i < 3 → TB σ (6 + 3 * i) (A i) ∧ Srt (A i) ∧ (A i).length ≤ 60) ∧ (∀ h, h < 3 → HB σ (28 + 4 * h) (H h)) ∧ ∀ v, v < 4 → σ (24 + v) 0 = 0 ∨ ∃ i, i < 3 ∧ σ (24 + v) 0 = nI (6 + 3 * i)
theorem t3 {i : Nat} (h : i < 3) : 6 + 3 * i = 6 ∨ 6 + 3 * i = 9 ∨ 6 + 3 * i = 12 := by omega
theorem h3 {i : Nat} (h : i < 3) : 28 + 4 * i = 28 ∨ 28 + 4 * i = 32 ∨ 28 + 4 * i = 36 := by omega
theorem CS.frB {σ σ' : sM} {A : Nat → LM} {H : Nat → LH} (h : CS σ A H) (hf : frB σ σ') : CS σ' A H :=
  ⟨fun i hi => ⟨(h.1 i hi).1.frB hf (t3 hi), (h.1 i hi).2⟩, fun j hj => (h.2.1 j hj).frB hf (h3 hj), fun v hv => by rw [hf (24 + v) (by omega)]; exact h.2.2 v hv⟩
theorem s_maps {σ : sM} {A : Nat → LM} {H : Nat → LH} (h : CS σ A H) : ok (f_X4_areMapsSound σ) (fun q => q.1 = 1 ∧ frB σ q.2) := by
  have loop : ∀ (d j n : Nat) (σ1 : sM), 3 = j + d → d + 1 ≤ n → frB σ σ1 → ok (b_X4_areMapsSound_2 n (nI j) σ1) (fun q => q.1 = 1 ∧ frB σ q.2) := by
    intro d
    induction d with
    | zero =>
      intro j n σ1 hj hn hf
      obtain ⟨n, rfl⟩ : ∃ z, n = z + 1 := ⟨n - 1, by omega⟩
      show ok (if (3 : Int32) ≤ nI j then _ else _) _
      exact ok_ip (nI_le (a := 3) (by omega) (by omega)) (ok_ret ⟨rfl, hf⟩)
    | succ d ih =>
      intro j n σ1 hj hn hf
      obtain ⟨n, rfl⟩ : ∃ z, n = z + 1 := ⟨n - 1, by omega⟩
      have hC := (h.frB hf).1 j (by omega)
      have hin : inb (nI j) 3 = true := inb_nI (by omega) (by omega)
      show ok (if (3 : Int32) ≤ nI j then _ else _) _
      refine ok_in (nI_ge (b := 3) (by omega) (by omega)) (ok_chk hin ?_)
      rw [nI_clamp (by omega)]
      refine ok_r (c_nearKeys hC.1 hC.2.1) (ok_in (by decide) (ok_chk hin ?_))
      refine ok_w (c_polls hC.1 (t3 (by omega))) (fun x σ2 q2 => ?_)
      have xe : x = 1 := q2.1
      rw [xe, nI_1]
      exact ok_in (by decide) (ih (j + 1) n σ2 (by omega) (by omega) (hf.tr q2.2))
  exact loop 3 0 FU σ (by omega) (by unfold FU; omega) frB.rf
theorem s_views {σ : sM} {A : Nat → LM} {H : Nat → LH} (h : CS σ A H) : f_X4_areViewsSound σ = some 1 := by
  have loop : ∀ (d j n : Nat), 4 = j + d → d + 1 ≤ n → b_X4_areViewsSound_2 n (nI j) σ = some 1 := by
    intro d
    induction d with
    | zero =>
      intro j n hj hn
      obtain ⟨n, rfl⟩ : ∃ z, n = z + 1 := ⟨n - 1, by omega⟩
      show (if (4 : Int32) ≤ nI j then _ else _) = _
      have c4 : (4 : Int32) ≤ nI j := nI_le (a := 4) (by omega) (by omega)
      rw [if_pos c4]
    | succ d ih =>
      intro j n hj hn
      obtain ⟨n, rfl⟩ : ∃ z, n = z + 1 := ⟨n - 1, by omega⟩
      have e : f_X3_hasJustItsSpan (24 + j) σ = some 1 := by
        rcases h.2.2 j (by omega) with a | ⟨i, a, b⟩
        · exact c_justNone a
        · exact c_just (h.1 i a).1 (h.1 i a).2.1 (isT_m (t3 a)) b
      show (if (4 : Int32) ≤ nI j then _ else _) = _
      have c4 : ¬ (4 : Int32) ≤ nI j := nI_ge (b := 4) (by omega) (by omega)
      rw [if_neg c4, chk_true (inb_nI (by omega) (by omega)), nI_clamp (by omega), e, rthn_e, if_neg (by decide), nI_1]
      exact ih (j + 1) n (by omega) (by omega)
  exact loop 4 0 FU (by omega) (by unfold FU; omega)
theorem s_orders {σ : sM} {A : Nat → LM} {H : Nat → LH} (h : CS σ A H) : ok (f_X4_areOrdersFree σ) (fun q => q.1 = 1 ∧ frB σ q.2) := by
  have most : ∀ (K2 : Int32 → sM → Option (Int32 × sM)) (K15 : Int32 → Int32 → sM → Option (Int32 × sM)) (a b : Nat), a < 3 → b < 3 → (∀ σ1, frB σ σ1 → ok (K15 (nI a) (nI (b + 1)) σ1) (fun q => q.1 = 1 ∧ frB σ q.2)) → ∀ (d j n : Nat) (σ1 : sM), 3 = j + d → d + 1 ≤ n → frB σ σ1 → ok (b_X4_areOrdersFree_26 K2 K15 n (nI a) (nI b) (nI j) σ1) (fun q => q.1 = 1 ∧ frB σ q.2) := by
    intro K2 K15 a b ha hb hK d
    induction d with
    | zero =>
      intro j n σ1 hj hn hf
      obtain ⟨n, rfl⟩ : ∃ z, n = z + 1 := ⟨n - 1, by omega⟩
      show ok (if (3 : Int32) ≤ nI j then _ else _) _
      refine ok_ip (nI_le (a := 3) (by omega) (by omega)) ?_
      rw [nI_1]
      exact hK σ1 hf
    | succ d ih =>
      intro j n σ1 hj hn hf
      obtain ⟨n, rfl⟩ : ∃ z, n = z + 1 := ⟨n - 1, by omega⟩
      have hC := h.frB hf
      have hj3 := hC.1 j (by omega)
      show ok (if (3 : Int32) ≤ nI j then _ else _) _
      refine ok_in (nI_ge (b := 3) (by omega) (by omega)) (ok_chk (inb_nI ha (by omega)) (ok_chk (inb_nI hb (by omega)) (ok_chk (inb_nI (by omega) (by omega)) ?_)))
      rw [nI_clamp (n := a) (by omega), nI_clamp (n := b) (by omega), nI_clamp (n := j) (by omega)]
      refine ok_w (c_orderFree (hC.2.1 a ha) (h3 ha) (hC.2.1 b hb) (h3 hb) hj3.1 (t3 (by omega)) hj3.2.1 hj3.2.2) (fun x σ2 q2 => ?_)
      have xe : x = 1 := q2.1
      rw [xe, nI_1]
      exact ok_in (by decide) (ih (j + 1) n σ2 (by omega) (by omega) (hf.tr q2.2))
  have inner : ∀ (K2 : Int32 → sM → Option (Int32 × sM)) (a : Nat), a < 3 → (∀ σ1, frB σ σ1 → ok (K2 (nI (a + 1)) σ1) (fun q => q.1 = 1 ∧ frB σ q.2)) → ∀ (d j n : Nat) (σ1 : sM), 3 = j + d → d + 1 ≤ n → frB σ σ1 → ok (b_X4_areOrdersFree_15 K2 n (nI a) (nI j) σ1) (fun q => q.1 = 1 ∧ frB σ q.2) := by
    intro K2 a ha hK d
    induction d with
    | zero =>
      intro j n σ1 hj hn hf
      obtain ⟨n, rfl⟩ : ∃ z, n = z + 1 := ⟨n - 1, by omega⟩
      show ok (if (3 : Int32) ≤ nI j then _ else _) _
      refine ok_ip (nI_le (a := 3) (by omega) (by omega)) ?_
      rw [nI_1]
      exact hK σ1 hf
    | succ d ih =>
      intro j n σ1 hj hn hf
      obtain ⟨n, rfl⟩ : ∃ z, n = z + 1 := ⟨n - 1, by omega⟩
      show ok (if (3 : Int32) ≤ nI j then _ else _) _
      refine ok_in (nI_ge (b := 3) (by omega) (by omega)) ?_
      exact most K2 _ a j ha (by omega) (fun σ2 hf2 => ih (j + 1) n σ2 (by omega) (by omega) hf2) 3 0 FU σ1 (by omega) (by unfold FU; omega) hf
  have loop : ∀ (d j n : Nat) (σ1 : sM), 3 = j + d → d + 1 ≤ n → frB σ σ1 → ok (b_X4_areOrdersFree_2 n (nI j) σ1) (fun q => q.1 = 1 ∧ frB σ q.2) := by
    intro d
    induction d with
    | zero =>
      intro j n σ1 hj hn hf
      obtain ⟨n, rfl⟩ : ∃ z, n = z + 1 := ⟨n - 1, by omega⟩
      show ok (if (3 : Int32) ≤ nI j then _ else _) _
      exact ok_ip (nI_le (a := 3) (by omega) (by omega)) (ok_ret ⟨rfl, hf⟩)
    | succ d ih =>
      intro j n σ1 hj hn hf
      obtain ⟨n, rfl⟩ : ∃ z, n = z + 1 := ⟨n - 1, by omega⟩
      show ok (if (3 : Int32) ≤ nI j then _ else _) _
      refine ok_in (nI_ge (b := 3) (by omega) (by omega)) ?_
      rw [nI_1]
      exact inner _ j (by omega) (fun σ2 hf2 => ih (j + 1) n σ2 (by omega) (by omega) hf2) d (j + 1) FU σ1 (by omega) (by unfold FU; omega) hf
  exact loop 3 0 FU σ (by omega) (by unfold FU; omega) frB.rf
theorem s_opp {σ : sM} {A : Nat → LM} {H : Nat → LH} (h : CS σ A H) : ok (f_X4_areOppositesSound σ) (fun q => q.1 = 1 ∧ frB σ q.2) := by
  have inner : ∀ (K2 : Int32 → sM → Option (Int32 × sM)) (a : Nat), a < 3 → (∀ σ1, frB σ σ1 → ok (K2 (nI (a + 1)) σ1) (fun q => q.1 = 1 ∧ frB σ q.2)) → ∀ (d j n : Nat) (σ1 : sM), 3 = j + d → d + 1 ≤ n → frB σ σ1 → ok (b_X4_areOppositesSound_13 K2 n (nI a) (nI j) σ1) (fun q => q.1 = 1 ∧ frB σ q.2) := by
    intro K2 a ha hK d
    induction d with
    | zero =>
      intro j n σ1 hj hn hf
      obtain ⟨n, rfl⟩ : ∃ z, n = z + 1 := ⟨n - 1, by omega⟩
      show ok (if (3 : Int32) ≤ nI j then _ else _) _
      refine ok_ip (nI_le (a := 3) (by omega) (by omega)) ?_
      rw [nI_1]
      exact hK σ1 hf
    | succ d ih =>
      intro j n σ1 hj hn hf
      obtain ⟨n, rfl⟩ : ∃ z, n = z + 1 := ⟨n - 1, by omega⟩
      have hC := h.frB hf
      have hj3 := hC.1 j (by omega)
      show ok (if (3 : Int32) ≤ nI j then _ else _) _
      refine ok_in (nI_ge (b := 3) (by omega) (by omega)) (ok_chk (inb_nI ha (by omega)) (ok_chk (inb_nI (by omega) (by omega)) ?_))
      rw [nI_clamp (n := a) (by omega), nI_clamp (n := j) (by omega)]
      refine ok_w (c_undone (hC.2.1 a ha) (h3 ha) hj3.1 (t3 (by omega)) hj3.2.1 hj3.2.2) (fun x σ2 q2 => ?_)
      have xe : x = 1 := q2.1
      rw [xe, nI_1]
      exact ok_in (by decide) (ih (j + 1) n σ2 (by omega) (by omega) (hf.tr q2.2))
  have loop : ∀ (d j n : Nat) (σ1 : sM), 3 = j + d → d + 1 ≤ n → frB σ σ1 → ok (b_X4_areOppositesSound_2 n (nI j) σ1) (fun q => q.1 = 1 ∧ frB σ q.2) := by
    intro d
    induction d with
    | zero =>
      intro j n σ1 hj hn hf
      obtain ⟨n, rfl⟩ : ∃ z, n = z + 1 := ⟨n - 1, by omega⟩
      show ok (if (3 : Int32) ≤ nI j then _ else _) _
      exact ok_ip (nI_le (a := 3) (by omega) (by omega)) (ok_ret ⟨rfl, hf⟩)
    | succ d ih =>
      intro j n σ1 hj hn hf
      obtain ⟨n, rfl⟩ : ∃ z, n = z + 1 := ⟨n - 1, by omega⟩
      show ok (if (3 : Int32) ≤ nI j then _ else _) _
      refine ok_in (nI_ge (b := 3) (by omega) (by omega)) ?_
      exact inner _ j (by omega) (fun σ2 hf2 => ih (j + 1) n σ2 (by omega) (by omega) hf2) 3 0 FU σ1 (by omega) (by unfold FU; omega) hf
  exact loop 3 0 FU σ (by omega) (by unfold FU; omega) frB.rf
theorem s_mixes {σ : sM} {A : Nat → LM} {H : Nat → LH} (h : CS σ A H) : ok (f_X4_areMixesSound σ) (fun q => q.1 = 1 ∧ frB σ q.2) := by
  have inner : ∀ (K2 : Int32 → sM → Option (Int32 × sM)) (a : Nat), a < 3 → (∀ σ1, frB σ σ1 → ok (K2 (nI (a + 1)) σ1) (fun q => q.1 = 1 ∧ frB σ q.2)) → ∀ (d j n : Nat) (σ1 : sM), 3 = j + d → d + 1 ≤ n → frB σ σ1 → ok (b_X4_areMixesSound_15 K2 n (nI a) (nI j) σ1) (fun q => q.1 = 1 ∧ frB σ q.2) := by
    intro K2 a ha hK d
    induction d with
    | zero =>
      intro j n σ1 hj hn hf
      obtain ⟨n, rfl⟩ : ∃ z, n = z + 1 := ⟨n - 1, by omega⟩
      show ok (if (3 : Int32) ≤ nI j then _ else _) _
      refine ok_ip (nI_le (a := 3) (by omega) (by omega)) ?_
      rw [nI_1]
      exact hK σ1 hf
    | succ d ih =>
      intro j n σ1 hj hn hf
      obtain ⟨n, rfl⟩ : ∃ z, n = z + 1 := ⟨n - 1, by omega⟩
      have i1 : inb (nI a) 3 = true := inb_nI ha (by omega)
      have i2 : inb (nI j) 3 = true := inb_nI (by omega) (by omega)
      have one : ∀ (w : Int32) (σ2 : sM), frB σ σ2 → ok (f_X0_isMixAlike (6 + 3 * a) (6 + 3 * j) w σ2) (fun q => q.1 = 1 ∧ frB σ q.2) := by
        intro w σ2 hf2
        have hC := h.frB hf2
        have hj3 := hC.1 j (by omega)
        have ha3 := hC.1 a ha
        exact ok_mono (c_mixAlike w ha3.1 (t3 ha) ha3.2.1 ha3.2.2 hj3.1 (t3 (by omega)) hj3.2.1 hj3.2.2) (fun q hq => ⟨hq.1, hf2.tr hq.2⟩)
      show ok (if (3 : Int32) ≤ nI j then _ else _) _
      refine ok_in (nI_ge (b := 3) (by omega) (by omega)) (ok_chk i1 (ok_chk i2 ?_))
      rw [nI_clamp (n := a) (by omega), nI_clamp (n := j) (by omega)]
      refine ok_w (one 115 σ1 hf) (fun x2 σ2 q2 => ?_)
      have xe2 : x2 = 1 := q2.1
      rw [xe2]
      refine ok_in (by decide) (ok_chk i1 (ok_chk i2 ?_))
      refine ok_w (one 103 σ2 q2.2) (fun x3 σ3 q3 => ?_)
      have xe3 : x3 = 1 := q3.1
      rw [xe3]
      refine ok_in (by decide) (ok_chk i1 (ok_chk i2 ?_))
      refine ok_w (one 108 σ3 q3.2) (fun x4 σ4 q4 => ?_)
      have xe4 : x4 = 1 := q4.1
      rw [xe4, nI_1]
      exact ok_in (by decide) (ih (j + 1) n σ4 (by omega) (by omega) q4.2)
  have loop : ∀ (d j n : Nat) (σ1 : sM), 3 = j + d → d + 1 ≤ n → frB σ σ1 → ok (b_X4_areMixesSound_2 n (nI j) σ1) (fun q => q.1 = 1 ∧ frB σ q.2) := by
    intro d
    induction d with
    | zero =>
      intro j n σ1 hj hn hf
      obtain ⟨n, rfl⟩ : ∃ z, n = z + 1 := ⟨n - 1, by omega⟩
      show ok (if (3 : Int32) ≤ nI j then _ else _) _
      exact ok_ip (nI_le (a := 3) (by omega) (by omega)) (ok_ret ⟨rfl, hf⟩)
    | succ d ih =>
      intro j n σ1 hj hn hf
      obtain ⟨n, rfl⟩ : ∃ z, n = z + 1 := ⟨n - 1, by omega⟩
      show ok (if (3 : Int32) ≤ nI j then _ else _) _
      refine ok_in (nI_ge (b := 3) (by omega) (by omega)) ?_
      rw [nI_1]
      exact inner _ j (by omega) (fun σ2 hf2 => ih (j + 1) n σ2 (by omega) (by omega) hf2) d (j + 1) FU σ1 (by omega) (by unfold FU; omega) hf
  exact loop 3 0 FU σ (by omega) (by unfold FU; omega) frB.rf
theorem c_sound {σ : sM} {A : Nat → LM} {H : Nat → LH} (h : CS σ A H) : ok (f_X4_isSound σ) (fun q => q.1 = 1 ∧ frB σ q.2) := by
  unfold f_X4_isSound
  refine ok_w (s_maps h) (fun x1 σ1 q1 => ?_)
  have e1 : x1 = 1 := q1.1
  have f1 : frB σ σ1 := q1.2
  rw [e1]
  refine ok_in (by decide) (ok_r (s_views (h.frB f1)) (ok_in (by decide) ?_))
  refine ok_w (s_orders (h.frB f1)) (fun x2 σ2 q2 => ?_)
  have e2 : x2 = 1 := q2.1
  have f2 : frB σ σ2 := f1.tr q2.2
  rw [e2]
  refine ok_in (by decide) ?_
  refine ok_w (s_opp (h.frB f2)) (fun x3 σ3 q3 => ?_)
  have e3 : x3 = 1 := q3.1
  have f3 : frB σ σ3 := f2.tr q3.2
  rw [e3]
  refine ok_in (by decide) ?_
  refine ok_w (s_mixes (h.frB f3)) (fun x4 σ4 q4 => ?_)
  have e4 : x4 = 1 := q4.1
  rw [e4]
  exact ok_in (by decide) (ok_ret ⟨rfl, f3.tr q4.2⟩)
